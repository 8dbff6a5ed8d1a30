theorem dX0_init_0 : decode cX0_init 0 = .ok (.aload_n 0, 1) := by decide +kernel
theorem dX0_init_1 : decode cX0_init 1 = .ok (.invokespecial 5, 3) := by decide +kernel
theorem dX0_init_4 : decode cX0_init 4 = .ok (.aload_n 0, 1) := by decide +kernel
theorem dX0_init_5 : decode cX0_init 5 = .ok (.bipush 112, 2) := by decide +kernel
theorem dX0_init_7 : decode cX0_init 7 = .ok (.newarray .int, 2) := by decide +kernel
theorem dX0_init_9 : decode cX0_init 9 = .ok (.putfield 11, 3) := by decide +kernel
theorem dX0_init_12 : decode cX0_init 12 = .ok (.aload_n 0, 1) := by decide +kernel
theorem dX0_init_13 : decode cX0_init 13 = .ok (.iconst 0, 1) := by decide +kernel
theorem dX0_init_14 : decode cX0_init 14 = .ok (.putfield 15, 3) := by decide +kernel
theorem dX0_init_17 : decode cX0_init 17 = .ok (.return_, 1) := by decide +kernel
theorem dX0_isEmpty_0 : decode cX0_isEmpty 0 = .ok (.aload_n 0, 1) := by decide +kernel
theorem dX0_isEmpty_1 : decode cX0_isEmpty 1 = .ok (.getfield 15, 3) := by decide +kernel
theorem dX0_isEmpty_4 : decode cX0_isEmpty 4 = .ok (.ifCond .gt 7, 3) := by decide +kernel
theorem dX0_isEmpty_7 : decode cX0_isEmpty 7 = .ok (.iconst 1, 1) := by decide +kernel
theorem dX0_isEmpty_8 : decode cX0_isEmpty 8 = .ok (.goto 4, 3) := by decide +kernel
theorem dX0_isEmpty_11 : decode cX0_isEmpty 11 = .ok (.iconst 0, 1) := by decide +kernel
theorem dX0_isEmpty_12 : decode cX0_isEmpty 12 = .ok (.ireturn, 1) := by decide +kernel
theorem dX0_clear_0 : decode cX0_clear 0 = .ok (.aload_n 0, 1) := by decide +kernel
theorem dX0_clear_1 : decode cX0_clear 1 = .ok (.iconst 0, 1) := by decide +kernel
theorem dX0_clear_2 : decode cX0_clear 2 = .ok (.putfield 15, 3) := by decide +kernel
theorem dX0_clear_5 : decode cX0_clear 5 = .ok (.return_, 1) := by decide +kernel
theorem dX0_copyFrom_0 : decode cX0_copyFrom 0 = .ok (.aload_n 1, 1) := by decide +kernel
theorem dX0_copyFrom_1 : decode cX0_copyFrom 1 = .ok (.getfield 11, 3) := by decide +kernel
theorem dX0_copyFrom_4 : decode cX0_copyFrom 4 = .ok (.aload_n 0, 1) := by decide +kernel
theorem dX0_copyFrom_5 : decode cX0_copyFrom 5 = .ok (.getfield 11, 3) := by decide +kernel
theorem dX0_copyFrom_8 : decode cX0_copyFrom 8 = .ok (.invokestatic 19, 3) := by decide +kernel
theorem dX0_copyFrom_11 : decode cX0_copyFrom 11 = .ok (.aload_n 0, 1) := by decide +kernel
theorem dX0_copyFrom_12 : decode cX0_copyFrom 12 = .ok (.aload_n 1, 1) := by decide +kernel
theorem dX0_copyFrom_13 : decode cX0_copyFrom 13 = .ok (.getfield 15, 3) := by decide +kernel
theorem dX0_copyFrom_16 : decode cX0_copyFrom 16 = .ok (.putfield 15, 3) := by decide +kernel
theorem dX0_copyFrom_19 : decode cX0_copyFrom 19 = .ok (.return_, 1) := by decide +kernel
theorem dX0_add_0 : decode cX0_add 0 = .ok (.aload_n 0, 1) := by decide +kernel
theorem dX0_add_1 : decode cX0_add 1 = .ok (.getfield 15, 3) := by decide +kernel
theorem dX0_add_4 : decode cX0_add 4 = .ok (.bipush 16, 2) := by decide +kernel
theorem dX0_add_6 : decode cX0_add 6 = .ok (.if_icmp .lt 48, 3) := by decide +kernel
theorem dX0_add_9 : decode cX0_add 9 = .ok (.iconst 0, 1) := by decide +kernel
theorem dX0_add_10 : decode cX0_add 10 = .ok (.istore 5, 2) := by decide +kernel
theorem dX0_add_12 : decode cX0_add 12 = .ok (.iload 5, 2) := by decide +kernel
theorem dX0_add_14 : decode cX0_add 14 = .ok (.bipush 7, 2) := by decide +kernel
theorem dX0_add_16 : decode cX0_add 16 = .ok (.iadd, 1) := by decide +kernel
theorem dX0_add_17 : decode cX0_add 17 = .ok (.aload_n 0, 1) := by decide +kernel
theorem dX0_add_18 : decode cX0_add 18 = .ok (.getfield 11, 3) := by decide +kernel
theorem dX0_add_21 : decode cX0_add 21 = .ok (.arraylength, 1) := by decide +kernel
theorem dX0_add_22 : decode cX0_add 22 = .ok (.if_icmp .ge 26, 3) := by decide +kernel
theorem dX0_add_25 : decode cX0_add 25 = .ok (.aload_n 0, 1) := by decide +kernel
theorem dX0_add_26 : decode cX0_add 26 = .ok (.getfield 11, 3) := by decide +kernel
theorem dX0_add_29 : decode cX0_add 29 = .ok (.iload 5, 2) := by decide +kernel
theorem dX0_add_31 : decode cX0_add 31 = .ok (.aload_n 0, 1) := by decide +kernel
theorem dX0_add_32 : decode cX0_add 32 = .ok (.getfield 11, 3) := by decide +kernel
theorem dX0_add_35 : decode cX0_add 35 = .ok (.iload 5, 2) := by decide +kernel
theorem dX0_add_37 : decode cX0_add 37 = .ok (.bipush 7, 2) := by decide +kernel
theorem dX0_add_39 : decode cX0_add 39 = .ok (.iadd, 1) := by decide +kernel
theorem dX0_add_40 : decode cX0_add 40 = .ok (.iaload, 1) := by decide +kernel
theorem dX0_add_41 : decode cX0_add 41 = .ok (.iastore, 1) := by decide +kernel
theorem dX0_add_42 : decode cX0_add 42 = .ok (.iinc 5 1, 3) := by decide +kernel
theorem dX0_add_45 : decode cX0_add 45 = .ok (.goto (-33), 3) := by decide +kernel
theorem dX0_add_48 : decode cX0_add 48 = .ok (.aload_n 0, 1) := by decide +kernel
theorem dX0_add_49 : decode cX0_add 49 = .ok (.bipush 15, 2) := by decide +kernel
theorem dX0_add_51 : decode cX0_add 51 = .ok (.putfield 15, 3) := by decide +kernel
theorem dX0_add_54 : decode cX0_add 54 = .ok (.aload_n 0, 1) := by decide +kernel
theorem dX0_add_55 : decode cX0_add 55 = .ok (.getfield 15, 3) := by decide +kernel
theorem dX0_add_58 : decode cX0_add 58 = .ok (.bipush 7, 2) := by decide +kernel
theorem dX0_add_60 : decode cX0_add 60 = .ok (.imul, 1) := by decide +kernel
theorem dX0_add_61 : decode cX0_add 61 = .ok (.istore 5, 2) := by decide +kernel
theorem dX0_add_63 : decode cX0_add 63 = .ok (.aload_n 0, 1) := by decide +kernel
theorem dX0_add_64 : decode cX0_add 64 = .ok (.getfield 11, 3) := by decide +kernel
theorem dX0_add_67 : decode cX0_add 67 = .ok (.iload 5, 2) := by decide +kernel
theorem dX0_add_69 : decode cX0_add 69 = .ok (.iconst 0, 1) := by decide +kernel
theorem dX0_add_70 : decode cX0_add 70 = .ok (.iadd, 1) := by decide +kernel
theorem dX0_add_71 : decode cX0_add 71 = .ok (.iload_n 1, 1) := by decide +kernel
theorem dX0_add_72 : decode cX0_add 72 = .ok (.iastore, 1) := by decide +kernel
theorem dX0_add_73 : decode cX0_add 73 = .ok (.aload_n 0, 1) := by decide +kernel
theorem dX0_add_74 : decode cX0_add 74 = .ok (.getfield 11, 3) := by decide +kernel
theorem dX0_add_77 : decode cX0_add 77 = .ok (.iload 5, 2) := by decide +kernel
theorem dX0_add_79 : decode cX0_add 79 = .ok (.iconst 1, 1) := by decide +kernel
theorem dX0_add_80 : decode cX0_add 80 = .ok (.iadd, 1) := by decide +kernel
theorem dX0_add_81 : decode cX0_add 81 = .ok (.iload_n 2, 1) := by decide +kernel
theorem dX0_add_82 : decode cX0_add 82 = .ok (.iastore, 1) := by decide +kernel
theorem dX0_add_83 : decode cX0_add 83 = .ok (.aload_n 0, 1) := by decide +kernel
theorem dX0_add_84 : decode cX0_add 84 = .ok (.getfield 11, 3) := by decide +kernel
theorem dX0_add_87 : decode cX0_add 87 = .ok (.iload 5, 2) := by decide +kernel
theorem dX0_add_89 : decode cX0_add 89 = .ok (.iconst 2, 1) := by decide +kernel
theorem dX0_add_90 : decode cX0_add 90 = .ok (.iadd, 1) := by decide +kernel
theorem dX0_add_91 : decode cX0_add 91 = .ok (.iload_n 3, 1) := by decide +kernel
theorem dX0_add_92 : decode cX0_add 92 = .ok (.iastore, 1) := by decide +kernel
theorem dX0_add_93 : decode cX0_add 93 = .ok (.aload_n 0, 1) := by decide +kernel
theorem dX0_add_94 : decode cX0_add 94 = .ok (.getfield 11, 3) := by decide +kernel
theorem dX0_add_97 : decode cX0_add 97 = .ok (.iload 5, 2) := by decide +kernel
theorem dX0_add_99 : decode cX0_add 99 = .ok (.iconst 3, 1) := by decide +kernel
theorem dX0_add_100 : decode cX0_add 100 = .ok (.iadd, 1) := by decide +kernel
theorem dX0_add_101 : decode cX0_add 101 = .ok (.aload 4, 2) := by decide +kernel
theorem dX0_add_103 : decode cX0_add 103 = .ok (.getfield 23, 3) := by decide +kernel
theorem dX0_add_106 : decode cX0_add 106 = .ok (.iastore, 1) := by decide +kernel
theorem dX0_add_107 : decode cX0_add 107 = .ok (.aload 4, 2) := by decide +kernel
theorem dX0_add_109 : decode cX0_add 109 = .ok (.getfield 28, 3) := by decide +kernel
theorem dX0_add_112 : decode cX0_add 112 = .ok (.iconst 0, 1) := by decide +kernel
theorem dX0_add_113 : decode cX0_add 113 = .ok (.aload_n 0, 1) := by decide +kernel
theorem dX0_add_114 : decode cX0_add 114 = .ok (.getfield 11, 3) := by decide +kernel
theorem dX0_add_117 : decode cX0_add 117 = .ok (.iload 5, 2) := by decide +kernel
theorem dX0_add_119 : decode cX0_add 119 = .ok (.iconst 4, 1) := by decide +kernel
theorem dX0_add_120 : decode cX0_add 120 = .ok (.iadd, 1) := by decide +kernel
theorem dX0_add_121 : decode cX0_add 121 = .ok (.iconst 3, 1) := by decide +kernel
theorem dX0_add_122 : decode cX0_add 122 = .ok (.invokestatic 31, 3) := by decide +kernel
theorem dX0_add_125 : decode cX0_add 125 = .ok (.aload_n 0, 1) := by decide +kernel
theorem dX0_add_126 : decode cX0_add 126 = .ok (.dup, 1) := by decide +kernel
theorem dX0_add_127 : decode cX0_add 127 = .ok (.getfield 15, 3) := by decide +kernel
theorem dX0_add_130 : decode cX0_add 130 = .ok (.iconst 1, 1) := by decide +kernel
theorem dX0_add_131 : decode cX0_add 131 = .ok (.iadd, 1) := by decide +kernel
theorem dX0_add_132 : decode cX0_add 132 = .ok (.putfield 15, 3) := by decide +kernel
theorem dX0_add_135 : decode cX0_add 135 = .ok (.return_, 1) := by decide +kernel
theorem dX0_takeBack_0 : decode cX0_takeBack 0 = .ok (.aload_n 0, 1) := by decide +kernel
theorem dX0_takeBack_1 : decode cX0_takeBack 1 = .ok (.invokevirtual 37, 3) := by decide +kernel
theorem dX0_takeBack_4 : decode cX0_takeBack 4 = .ok (.ifCond .ne 12, 3) := by decide +kernel
theorem dX0_takeBack_7 : decode cX0_takeBack 7 = .ok (.aload_n 0, 1) := by decide +kernel
theorem dX0_takeBack_8 : decode cX0_takeBack 8 = .ok (.getfield 15, 3) := by decide +kernel
theorem dX0_takeBack_11 : decode cX0_takeBack 11 = .ok (.bipush 16, 2) := by decide +kernel
theorem dX0_takeBack_13 : decode cX0_takeBack 13 = .ok (.if_icmp .le 5, 3) := by decide +kernel
theorem dX0_takeBack_16 : decode cX0_takeBack 16 = .ok (.iconst (-1), 1) := by decide +kernel
theorem dX0_takeBack_17 : decode cX0_takeBack 17 = .ok (.ireturn, 1) := by decide +kernel
theorem dX0_takeBack_18 : decode cX0_takeBack 18 = .ok (.aload_n 0, 1) := by decide +kernel
theorem dX0_takeBack_19 : decode cX0_takeBack 19 = .ok (.dup, 1) := by decide +kernel
theorem dX0_takeBack_20 : decode cX0_takeBack 20 = .ok (.getfield 15, 3) := by decide +kernel
theorem dX0_takeBack_23 : decode cX0_takeBack 23 = .ok (.iconst 1, 1) := by decide +kernel
theorem dX0_takeBack_24 : decode cX0_takeBack 24 = .ok (.isub, 1) := by decide +kernel
theorem dX0_takeBack_25 : decode cX0_takeBack 25 = .ok (.putfield 15, 3) := by decide +kernel
theorem dX0_takeBack_28 : decode cX0_takeBack 28 = .ok (.aload_n 0, 1) := by decide +kernel
theorem dX0_takeBack_29 : decode cX0_takeBack 29 = .ok (.getfield 15, 3) := by decide +kernel
theorem dX0_takeBack_32 : decode cX0_takeBack 32 = .ok (.bipush 7, 2) := by decide +kernel
theorem dX0_takeBack_34 : decode cX0_takeBack 34 = .ok (.imul, 1) := by decide +kernel
theorem dX0_takeBack_35 : decode cX0_takeBack 35 = .ok (.istore_n 2, 1) := by decide +kernel
theorem dX0_takeBack_36 : decode cX0_takeBack 36 = .ok (.aload_n 0, 1) := by decide +kernel
theorem dX0_takeBack_37 : decode cX0_takeBack 37 = .ok (.getfield 11, 3) := by decide +kernel
theorem dX0_takeBack_40 : decode cX0_takeBack 40 = .ok (.iload_n 2, 1) := by decide +kernel
theorem dX0_takeBack_41 : decode cX0_takeBack 41 = .ok (.iconst 0, 1) := by decide +kernel
theorem dX0_takeBack_42 : decode cX0_takeBack 42 = .ok (.iadd, 1) := by decide +kernel
theorem dX0_takeBack_43 : decode cX0_takeBack 43 = .ok (.iaload, 1) := by decide +kernel
theorem dX0_takeBack_44 : decode cX0_takeBack 44 = .ok (.istore_n 3, 1) := by decide +kernel
theorem dX0_takeBack_45 : decode cX0_takeBack 45 = .ok (.aload_n 0, 1) := by decide +kernel
theorem dX0_takeBack_46 : decode cX0_takeBack 46 = .ok (.getfield 11, 3) := by decide +kernel
theorem dX0_takeBack_49 : decode cX0_takeBack 49 = .ok (.iload_n 2, 1) := by decide +kernel
theorem dX0_takeBack_50 : decode cX0_takeBack 50 = .ok (.iconst 1, 1) := by decide +kernel
theorem dX0_takeBack_51 : decode cX0_takeBack 51 = .ok (.iadd, 1) := by decide +kernel
theorem dX0_takeBack_52 : decode cX0_takeBack 52 = .ok (.iaload, 1) := by decide +kernel
theorem dX0_takeBack_53 : decode cX0_takeBack 53 = .ok (.istore 4, 2) := by decide +kernel
theorem dX0_takeBack_55 : decode cX0_takeBack 55 = .ok (.aload_n 0, 1) := by decide +kernel
theorem dX0_takeBack_56 : decode cX0_takeBack 56 = .ok (.getfield 11, 3) := by decide +kernel
theorem dX0_takeBack_59 : decode cX0_takeBack 59 = .ok (.iload_n 2, 1) := by decide +kernel
theorem dX0_takeBack_60 : decode cX0_takeBack 60 = .ok (.iconst 2, 1) := by decide +kernel
theorem dX0_takeBack_61 : decode cX0_takeBack 61 = .ok (.iadd, 1) := by decide +kernel
theorem dX0_takeBack_62 : decode cX0_takeBack 62 = .ok (.iaload, 1) := by decide +kernel
theorem dX0_takeBack_63 : decode cX0_takeBack 63 = .ok (.istore 5, 2) := by decide +kernel
theorem dX0_takeBack_65 : decode cX0_takeBack 65 = .ok (.iload_n 3, 1) := by decide +kernel
theorem dX0_takeBack_66 : decode cX0_takeBack 66 = .ok (.ifCond .ne 24, 3) := by decide +kernel
theorem dX0_takeBack_69 : decode cX0_takeBack 69 = .ok (.aload_n 1, 1) := by decide +kernel
theorem dX0_takeBack_70 : decode cX0_takeBack 70 = .ok (.iload 4, 2) := by decide +kernel
theorem dX0_takeBack_72 : decode cX0_takeBack 72 = .ok (.invokevirtual 41, 3) := by decide +kernel
theorem dX0_takeBack_75 : decode cX0_takeBack 75 = .ok (.ifCond .eq 15, 3) := by decide +kernel
theorem dX0_takeBack_78 : decode cX0_takeBack 78 = .ok (.aload_n 1, 1) := by decide +kernel
theorem dX0_takeBack_79 : decode cX0_takeBack 79 = .ok (.getfield 45, 3) := by decide +kernel
theorem dX0_takeBack_82 : decode cX0_takeBack 82 = .ok (.iload 4, 2) := by decide +kernel
theorem dX0_takeBack_84 : decode cX0_takeBack 84 = .ok (.iload 5, 2) := by decide +kernel
theorem dX0_takeBack_86 : decode cX0_takeBack 86 = .ok (.iastore, 1) := by decide +kernel
theorem dX0_takeBack_87 : decode cX0_takeBack 87 = .ok (.goto 88, 3) := by decide +kernel
theorem dX0_takeBack_90 : decode cX0_takeBack 90 = .ok (.iload_n 3, 1) := by decide +kernel
theorem dX0_takeBack_91 : decode cX0_takeBack 91 = .ok (.iconst 1, 1) := by decide +kernel
theorem dX0_takeBack_92 : decode cX0_takeBack 92 = .ok (.if_icmp .ne 24, 3) := by decide +kernel
theorem dX0_takeBack_95 : decode cX0_takeBack 95 = .ok (.aload_n 1, 1) := by decide +kernel
theorem dX0_takeBack_96 : decode cX0_takeBack 96 = .ok (.iload 4, 2) := by decide +kernel
theorem dX0_takeBack_98 : decode cX0_takeBack 98 = .ok (.invokevirtual 48, 3) := by decide +kernel
theorem dX0_takeBack_101 : decode cX0_takeBack 101 = .ok (.ifCond .eq 15, 3) := by decide +kernel
theorem dX0_takeBack_104 : decode cX0_takeBack 104 = .ok (.aload_n 1, 1) := by decide +kernel
theorem dX0_takeBack_105 : decode cX0_takeBack 105 = .ok (.getfield 51, 3) := by decide +kernel
theorem dX0_takeBack_108 : decode cX0_takeBack 108 = .ok (.iload 4, 2) := by decide +kernel
theorem dX0_takeBack_110 : decode cX0_takeBack 110 = .ok (.iload 5, 2) := by decide +kernel
theorem dX0_takeBack_112 : decode cX0_takeBack 112 = .ok (.iastore, 1) := by decide +kernel
theorem dX0_takeBack_113 : decode cX0_takeBack 113 = .ok (.goto 62, 3) := by decide +kernel
theorem dX0_takeBack_116 : decode cX0_takeBack 116 = .ok (.iload_n 3, 1) := by decide +kernel
theorem dX0_takeBack_117 : decode cX0_takeBack 117 = .ok (.iconst 2, 1) := by decide +kernel
theorem dX0_takeBack_118 : decode cX0_takeBack 118 = .ok (.if_icmp .ne 14, 3) := by decide +kernel
theorem dX0_takeBack_121 : decode cX0_takeBack 121 = .ok (.aload_n 1, 1) := by decide +kernel
theorem dX0_takeBack_122 : decode cX0_takeBack 122 = .ok (.iload 4, 2) := by decide +kernel
theorem dX0_takeBack_124 : decode cX0_takeBack 124 = .ok (.iload 5, 2) := by decide +kernel
theorem dX0_takeBack_126 : decode cX0_takeBack 126 = .ok (.invokevirtual 54, 3) := by decide +kernel
theorem dX0_takeBack_129 : decode cX0_takeBack 129 = .ok (.goto 46, 3) := by decide +kernel
theorem dX0_takeBack_132 : decode cX0_takeBack 132 = .ok (.iload_n 3, 1) := by decide +kernel
theorem dX0_takeBack_133 : decode cX0_takeBack 133 = .ok (.iconst 3, 1) := by decide +kernel
theorem dX0_takeBack_134 : decode cX0_takeBack 134 = .ok (.if_icmp .ne 41, 3) := by decide +kernel
theorem dX0_takeBack_137 : decode cX0_takeBack 137 = .ok (.aload_n 1, 1) := by decide +kernel
theorem dX0_takeBack_138 : decode cX0_takeBack 138 = .ok (.aload_n 0, 1) := by decide +kernel
theorem dX0_takeBack_139 : decode cX0_takeBack 139 = .ok (.getfield 11, 3) := by decide +kernel
theorem dX0_takeBack_142 : decode cX0_takeBack 142 = .ok (.iload_n 2, 1) := by decide +kernel
theorem dX0_takeBack_143 : decode cX0_takeBack 143 = .ok (.iconst 3, 1) := by decide +kernel
theorem dX0_takeBack_144 : decode cX0_takeBack 144 = .ok (.iadd, 1) := by decide +kernel
theorem dX0_takeBack_145 : decode cX0_takeBack 145 = .ok (.iaload, 1) := by decide +kernel
theorem dX0_takeBack_146 : decode cX0_takeBack 146 = .ok (.putfield 23, 3) := by decide +kernel
theorem dX0_takeBack_149 : decode cX0_takeBack 149 = .ok (.aload_n 0, 1) := by decide +kernel
theorem dX0_takeBack_150 : decode cX0_takeBack 150 = .ok (.getfield 11, 3) := by decide +kernel
theorem dX0_takeBack_153 : decode cX0_takeBack 153 = .ok (.iload_n 2, 1) := by decide +kernel
theorem dX0_takeBack_154 : decode cX0_takeBack 154 = .ok (.iconst 4, 1) := by decide +kernel
theorem dX0_takeBack_155 : decode cX0_takeBack 155 = .ok (.iadd, 1) := by decide +kernel
theorem dX0_takeBack_156 : decode cX0_takeBack 156 = .ok (.aload_n 1, 1) := by decide +kernel
theorem dX0_takeBack_157 : decode cX0_takeBack 157 = .ok (.getfield 28, 3) := by decide +kernel
theorem dX0_takeBack_160 : decode cX0_takeBack 160 = .ok (.iconst 0, 1) := by decide +kernel
theorem dX0_takeBack_161 : decode cX0_takeBack 161 = .ok (.iconst 3, 1) := by decide +kernel
theorem dX0_takeBack_162 : decode cX0_takeBack 162 = .ok (.invokestatic 31, 3) := by decide +kernel
theorem dX0_takeBack_165 : decode cX0_takeBack 165 = .ok (.aload_n 1, 1) := by decide +kernel
theorem dX0_takeBack_166 : decode cX0_takeBack 166 = .ok (.getfield 58, 3) := by decide +kernel
theorem dX0_takeBack_169 : decode cX0_takeBack 169 = .ok (.iconst 0, 1) := by decide +kernel
theorem dX0_takeBack_170 : decode cX0_takeBack 170 = .ok (.dup2, 1) := by decide +kernel
theorem dX0_takeBack_171 : decode cX0_takeBack 171 = .ok (.iaload, 1) := by decide +kernel
theorem dX0_takeBack_172 : decode cX0_takeBack 172 = .ok (.iconst 1, 1) := by decide +kernel
theorem dX0_takeBack_173 : decode cX0_takeBack 173 = .ok (.isub, 1) := by decide +kernel
theorem dX0_takeBack_174 : decode cX0_takeBack 174 = .ok (.iastore, 1) := by decide +kernel
theorem dX0_takeBack_175 : decode cX0_takeBack 175 = .ok (.iload_n 3, 1) := by decide +kernel
theorem dX0_takeBack_176 : decode cX0_takeBack 176 = .ok (.ireturn, 1) := by decide +kernel
theorem dX1_init_0 : decode cX1_init 0 = .ok (.aload_n 0, 1) := by decide +kernel
theorem dX1_init_1 : decode cX1_init 1 = .ok (.invokespecial 3, 3) := by decide +kernel
theorem dX1_init_4 : decode cX1_init 4 = .ok (.aload_n 0, 1) := by decide +kernel
theorem dX1_init_5 : decode cX1_init 5 = .ok (.new 9, 3) := by decide +kernel
theorem dX1_init_8 : decode cX1_init 8 = .ok (.dup, 1) := by decide +kernel
theorem dX1_init_9 : decode cX1_init 9 = .ok (.invokespecial 11, 3) := by decide +kernel
theorem dX1_init_12 : decode cX1_init 12 = .ok (.putfield 12, 3) := by decide +kernel
theorem dX1_init_15 : decode cX1_init 15 = .ok (.aload_n 0, 1) := by decide +kernel
theorem dX1_init_16 : decode cX1_init 16 = .ok (.bipush 6, 2) := by decide +kernel
theorem dX1_init_18 : decode cX1_init 18 = .ok (.newarray .int, 2) := by decide +kernel
theorem dX1_init_20 : decode cX1_init 20 = .ok (.putfield 18, 3) := by decide +kernel
theorem dX1_init_23 : decode cX1_init 23 = .ok (.aload_n 0, 1) := by decide +kernel
theorem dX1_init_24 : decode cX1_init 24 = .ok (.iconst 4, 1) := by decide +kernel
theorem dX1_init_25 : decode cX1_init 25 = .ok (.newarray .int, 2) := by decide +kernel
theorem dX1_init_27 : decode cX1_init 27 = .ok (.putfield 22, 3) := by decide +kernel
theorem dX1_init_30 : decode cX1_init 30 = .ok (.aload_n 0, 1) := by decide +kernel
theorem dX1_init_31 : decode cX1_init 31 = .ok (.iconst 4, 1) := by decide +kernel
theorem dX1_init_32 : decode cX1_init 32 = .ok (.newarray .int, 2) := by decide +kernel
theorem dX1_init_34 : decode cX1_init 34 = .ok (.putfield 25, 3) := by decide +kernel
theorem dX1_init_37 : decode cX1_init 37 = .ok (.aload_n 0, 1) := by decide +kernel
theorem dX1_init_38 : decode cX1_init 38 = .ok (.iconst 3, 1) := by decide +kernel
theorem dX1_init_39 : decode cX1_init 39 = .ok (.newarray .int, 2) := by decide +kernel
theorem dX1_init_41 : decode cX1_init 41 = .ok (.putfield 28, 3) := by decide +kernel
theorem dX1_init_44 : decode cX1_init 44 = .ok (.aload_n 0, 1) := by decide +kernel
theorem dX1_init_45 : decode cX1_init 45 = .ok (.bipush 6, 2) := by decide +kernel
theorem dX1_init_47 : decode cX1_init 47 = .ok (.newarray .int, 2) := by decide +kernel
theorem dX1_init_49 : decode cX1_init 49 = .ok (.putfield 31, 3) := by decide +kernel
theorem dX1_init_52 : decode cX1_init 52 = .ok (.aload_n 0, 1) := by decide +kernel
theorem dX1_init_53 : decode cX1_init 53 = .ok (.bipush 6, 2) := by decide +kernel
theorem dX1_init_55 : decode cX1_init 55 = .ok (.newarray .int, 2) := by decide +kernel
theorem dX1_init_57 : decode cX1_init 57 = .ok (.putfield 34, 3) := by decide +kernel
theorem dX1_init_60 : decode cX1_init 60 = .ok (.aload_n 0, 1) := by decide +kernel
theorem dX1_init_61 : decode cX1_init 61 = .ok (.bipush 6, 2) := by decide +kernel
theorem dX1_init_63 : decode cX1_init 63 = .ok (.newarray .int, 2) := by decide +kernel
theorem dX1_init_65 : decode cX1_init 65 = .ok (.putfield 37, 3) := by decide +kernel
theorem dX1_init_68 : decode cX1_init 68 = .ok (.aload_n 0, 1) := by decide +kernel
theorem dX1_init_69 : decode cX1_init 69 = .ok (.bipush 6, 2) := by decide +kernel
theorem dX1_init_71 : decode cX1_init 71 = .ok (.newarray .int, 2) := by decide +kernel
theorem dX1_init_73 : decode cX1_init 73 = .ok (.putfield 40, 3) := by decide +kernel
theorem dX1_init_76 : decode cX1_init 76 = .ok (.aload_n 0, 1) := by decide +kernel
theorem dX1_init_77 : decode cX1_init 77 = .ok (.bipush 6, 2) := by decide +kernel
theorem dX1_init_79 : decode cX1_init 79 = .ok (.newarray .int, 2) := by decide +kernel
theorem dX1_init_81 : decode cX1_init 81 = .ok (.putfield 43, 3) := by decide +kernel
theorem dX1_init_84 : decode cX1_init 84 = .ok (.aload_n 0, 1) := by decide +kernel
theorem dX1_init_85 : decode cX1_init 85 = .ok (.iconst 3, 1) := by decide +kernel
theorem dX1_init_86 : decode cX1_init 86 = .ok (.newarray .int, 2) := by decide +kernel
theorem dX1_init_88 : decode cX1_init 88 = .ok (.dup, 1) := by decide +kernel
theorem dX1_init_89 : decode cX1_init 89 = .ok (.iconst 0, 1) := by decide +kernel
theorem dX1_init_90 : decode cX1_init 90 = .ok (.iconst 0, 1) := by decide +kernel
theorem dX1_init_91 : decode cX1_init 91 = .ok (.iastore, 1) := by decide +kernel
theorem dX1_init_92 : decode cX1_init 92 = .ok (.dup, 1) := by decide +kernel
theorem dX1_init_93 : decode cX1_init 93 = .ok (.iconst 1, 1) := by decide +kernel
theorem dX1_init_94 : decode cX1_init 94 = .ok (.iconst 1, 1) := by decide +kernel
theorem dX1_init_95 : decode cX1_init 95 = .ok (.iastore, 1) := by decide +kernel
theorem dX1_init_96 : decode cX1_init 96 = .ok (.dup, 1) := by decide +kernel
theorem dX1_init_97 : decode cX1_init 97 = .ok (.iconst 2, 1) := by decide +kernel
theorem dX1_init_98 : decode cX1_init 98 = .ok (.iconst 0, 1) := by decide +kernel
theorem dX1_init_99 : decode cX1_init 99 = .ok (.iastore, 1) := by decide +kernel
theorem dX1_init_100 : decode cX1_init 100 = .ok (.putfield 46, 3) := by decide +kernel
theorem dX1_init_103 : decode cX1_init 103 = .ok (.aload_n 0, 1) := by decide +kernel
theorem dX1_init_104 : decode cX1_init 104 = .ok (.bipush 6, 2) := by decide +kernel
theorem dX1_init_106 : decode cX1_init 106 = .ok (.anewarray 49, 3) := by decide +kernel
theorem dX1_init_109 : decode cX1_init 109 = .ok (.putfield 51, 3) := by decide +kernel
theorem dX1_init_112 : decode cX1_init 112 = .ok (.aload_n 0, 1) := by decide +kernel
theorem dX1_init_113 : decode cX1_init 113 = .ok (.new 55, 3) := by decide +kernel
theorem dX1_init_116 : decode cX1_init 116 = .ok (.dup, 1) := by decide +kernel
theorem dX1_init_117 : decode cX1_init 117 = .ok (.invokespecial 57, 3) := by decide +kernel
theorem dX1_init_120 : decode cX1_init 120 = .ok (.putfield 58, 3) := by decide +kernel
theorem dX1_init_123 : decode cX1_init 123 = .ok (.aload_n 0, 1) := by decide +kernel
theorem dX1_init_124 : decode cX1_init 124 = .ok (.iconst 0, 1) := by decide +kernel
theorem dX1_init_125 : decode cX1_init 125 = .ok (.putfield 62, 3) := by decide +kernel
theorem dX1_init_128 : decode cX1_init 128 = .ok (.aload_n 0, 1) := by decide +kernel
theorem dX1_init_129 : decode cX1_init 129 = .ok (.iconst 0, 1) := by decide +kernel
theorem dX1_init_130 : decode cX1_init 130 = .ok (.putfield 66, 3) := by decide +kernel
theorem dX1_init_133 : decode cX1_init 133 = .ok (.aload_n 0, 1) := by decide +kernel
theorem dX1_init_134 : decode cX1_init 134 = .ok (.iconst 0, 1) := by decide +kernel
theorem dX1_init_135 : decode cX1_init 135 = .ok (.putfield 69, 3) := by decide +kernel
theorem dX1_init_138 : decode cX1_init 138 = .ok (.aload_n 0, 1) := by decide +kernel
theorem dX1_init_139 : decode cX1_init 139 = .ok (.iconst 0, 1) := by decide +kernel
theorem dX1_init_140 : decode cX1_init 140 = .ok (.putfield 72, 3) := by decide +kernel
theorem dX1_init_143 : decode cX1_init 143 = .ok (.aload_n 0, 1) := by decide +kernel
theorem dX1_init_144 : decode cX1_init 144 = .ok (.iconst 0, 1) := by decide +kernel
theorem dX1_init_145 : decode cX1_init 145 = .ok (.putfield 75, 3) := by decide +kernel
theorem dX1_init_148 : decode cX1_init 148 = .ok (.aload_n 0, 1) := by decide +kernel
theorem dX1_init_149 : decode cX1_init 149 = .ok (.iconst 0, 1) := by decide +kernel
theorem dX1_init_150 : decode cX1_init 150 = .ok (.putfield 78, 3) := by decide +kernel
theorem dX1_init_153 : decode cX1_init 153 = .ok (.aload_n 0, 1) := by decide +kernel
theorem dX1_init_154 : decode cX1_init 154 = .ok (.iconst (-1), 1) := by decide +kernel
theorem dX1_init_155 : decode cX1_init 155 = .ok (.putfield 81, 3) := by decide +kernel
theorem dX1_init_158 : decode cX1_init 158 = .ok (.return_, 1) := by decide +kernel
theorem dX1_copyFrom_0 : decode cX1_copyFrom 0 = .ok (.aload_n 0, 1) := by decide +kernel
theorem dX1_copyFrom_1 : decode cX1_copyFrom 1 = .ok (.getfield 12, 3) := by decide +kernel
theorem dX1_copyFrom_4 : decode cX1_copyFrom 4 = .ok (.aload_n 1, 1) := by decide +kernel
theorem dX1_copyFrom_5 : decode cX1_copyFrom 5 = .ok (.getfield 12, 3) := by decide +kernel
theorem dX1_copyFrom_8 : decode cX1_copyFrom 8 = .ok (.invokevirtual 84, 3) := by decide +kernel
theorem dX1_copyFrom_11 : decode cX1_copyFrom 11 = .ok (.aload_n 1, 1) := by decide +kernel
theorem dX1_copyFrom_12 : decode cX1_copyFrom 12 = .ok (.getfield 18, 3) := by decide +kernel
theorem dX1_copyFrom_15 : decode cX1_copyFrom 15 = .ok (.aload_n 0, 1) := by decide +kernel
theorem dX1_copyFrom_16 : decode cX1_copyFrom 16 = .ok (.getfield 18, 3) := by decide +kernel
theorem dX1_copyFrom_19 : decode cX1_copyFrom 19 = .ok (.invokestatic 88, 3) := by decide +kernel
theorem dX1_copyFrom_22 : decode cX1_copyFrom 22 = .ok (.aload_n 1, 1) := by decide +kernel
theorem dX1_copyFrom_23 : decode cX1_copyFrom 23 = .ok (.getfield 22, 3) := by decide +kernel
theorem dX1_copyFrom_26 : decode cX1_copyFrom 26 = .ok (.aload_n 0, 1) := by decide +kernel
theorem dX1_copyFrom_27 : decode cX1_copyFrom 27 = .ok (.getfield 22, 3) := by decide +kernel
theorem dX1_copyFrom_30 : decode cX1_copyFrom 30 = .ok (.invokestatic 88, 3) := by decide +kernel
theorem dX1_copyFrom_33 : decode cX1_copyFrom 33 = .ok (.aload_n 1, 1) := by decide +kernel
theorem dX1_copyFrom_34 : decode cX1_copyFrom 34 = .ok (.getfield 25, 3) := by decide +kernel
theorem dX1_copyFrom_37 : decode cX1_copyFrom 37 = .ok (.aload_n 0, 1) := by decide +kernel
theorem dX1_copyFrom_38 : decode cX1_copyFrom 38 = .ok (.getfield 25, 3) := by decide +kernel
theorem dX1_copyFrom_41 : decode cX1_copyFrom 41 = .ok (.invokestatic 88, 3) := by decide +kernel
theorem dX1_copyFrom_44 : decode cX1_copyFrom 44 = .ok (.aload_n 1, 1) := by decide +kernel
theorem dX1_copyFrom_45 : decode cX1_copyFrom 45 = .ok (.getfield 28, 3) := by decide +kernel
theorem dX1_copyFrom_48 : decode cX1_copyFrom 48 = .ok (.aload_n 0, 1) := by decide +kernel
theorem dX1_copyFrom_49 : decode cX1_copyFrom 49 = .ok (.getfield 28, 3) := by decide +kernel
theorem dX1_copyFrom_52 : decode cX1_copyFrom 52 = .ok (.invokestatic 88, 3) := by decide +kernel
theorem dX1_copyFrom_55 : decode cX1_copyFrom 55 = .ok (.aload_n 1, 1) := by decide +kernel
theorem dX1_copyFrom_56 : decode cX1_copyFrom 56 = .ok (.getfield 31, 3) := by decide +kernel
theorem dX1_copyFrom_59 : decode cX1_copyFrom 59 = .ok (.aload_n 0, 1) := by decide +kernel
theorem dX1_copyFrom_60 : decode cX1_copyFrom 60 = .ok (.getfield 31, 3) := by decide +kernel
theorem dX1_copyFrom_63 : decode cX1_copyFrom 63 = .ok (.invokestatic 88, 3) := by decide +kernel
theorem dX1_copyFrom_66 : decode cX1_copyFrom 66 = .ok (.aload_n 1, 1) := by decide +kernel
theorem dX1_copyFrom_67 : decode cX1_copyFrom 67 = .ok (.getfield 34, 3) := by decide +kernel
theorem dX1_copyFrom_70 : decode cX1_copyFrom 70 = .ok (.aload_n 0, 1) := by decide +kernel
theorem dX1_copyFrom_71 : decode cX1_copyFrom 71 = .ok (.getfield 34, 3) := by decide +kernel
theorem dX1_copyFrom_74 : decode cX1_copyFrom 74 = .ok (.invokestatic 88, 3) := by decide +kernel
theorem dX1_copyFrom_77 : decode cX1_copyFrom 77 = .ok (.aload_n 1, 1) := by decide +kernel
theorem dX1_copyFrom_78 : decode cX1_copyFrom 78 = .ok (.getfield 37, 3) := by decide +kernel
theorem dX1_copyFrom_81 : decode cX1_copyFrom 81 = .ok (.aload_n 0, 1) := by decide +kernel
theorem dX1_copyFrom_82 : decode cX1_copyFrom 82 = .ok (.getfield 37, 3) := by decide +kernel
theorem dX1_copyFrom_85 : decode cX1_copyFrom 85 = .ok (.invokestatic 88, 3) := by decide +kernel
theorem dX1_copyFrom_88 : decode cX1_copyFrom 88 = .ok (.aload_n 1, 1) := by decide +kernel
theorem dX1_copyFrom_89 : decode cX1_copyFrom 89 = .ok (.getfield 40, 3) := by decide +kernel
theorem dX1_copyFrom_92 : decode cX1_copyFrom 92 = .ok (.aload_n 0, 1) := by decide +kernel
theorem dX1_copyFrom_93 : decode cX1_copyFrom 93 = .ok (.getfield 40, 3) := by decide +kernel
theorem dX1_copyFrom_96 : decode cX1_copyFrom 96 = .ok (.invokestatic 88, 3) := by decide +kernel
theorem dX1_copyFrom_99 : decode cX1_copyFrom 99 = .ok (.aload_n 1, 1) := by decide +kernel
theorem dX1_copyFrom_100 : decode cX1_copyFrom 100 = .ok (.getfield 43, 3) := by decide +kernel
theorem dX1_copyFrom_103 : decode cX1_copyFrom 103 = .ok (.aload_n 0, 1) := by decide +kernel
theorem dX1_copyFrom_104 : decode cX1_copyFrom 104 = .ok (.getfield 43, 3) := by decide +kernel
theorem dX1_copyFrom_107 : decode cX1_copyFrom 107 = .ok (.invokestatic 88, 3) := by decide +kernel
theorem dX1_copyFrom_110 : decode cX1_copyFrom 110 = .ok (.aload_n 1, 1) := by decide +kernel
theorem dX1_copyFrom_111 : decode cX1_copyFrom 111 = .ok (.getfield 46, 3) := by decide +kernel
theorem dX1_copyFrom_114 : decode cX1_copyFrom 114 = .ok (.aload_n 0, 1) := by decide +kernel
theorem dX1_copyFrom_115 : decode cX1_copyFrom 115 = .ok (.getfield 46, 3) := by decide +kernel
theorem dX1_copyFrom_118 : decode cX1_copyFrom 118 = .ok (.invokestatic 88, 3) := by decide +kernel
theorem dX1_copyFrom_121 : decode cX1_copyFrom 121 = .ok (.iconst 0, 1) := by decide +kernel
theorem dX1_copyFrom_122 : decode cX1_copyFrom 122 = .ok (.istore_n 2, 1) := by decide +kernel
theorem dX1_copyFrom_123 : decode cX1_copyFrom 123 = .ok (.iload_n 2, 1) := by decide +kernel
theorem dX1_copyFrom_124 : decode cX1_copyFrom 124 = .ok (.bipush 6, 2) := by decide +kernel
theorem dX1_copyFrom_126 : decode cX1_copyFrom 126 = .ok (.if_icmp .ge 21, 3) := by decide +kernel
theorem dX1_copyFrom_129 : decode cX1_copyFrom 129 = .ok (.aload_n 0, 1) := by decide +kernel
theorem dX1_copyFrom_130 : decode cX1_copyFrom 130 = .ok (.getfield 51, 3) := by decide +kernel
theorem dX1_copyFrom_133 : decode cX1_copyFrom 133 = .ok (.iload_n 2, 1) := by decide +kernel
theorem dX1_copyFrom_134 : decode cX1_copyFrom 134 = .ok (.aload_n 1, 1) := by decide +kernel
theorem dX1_copyFrom_135 : decode cX1_copyFrom 135 = .ok (.getfield 51, 3) := by decide +kernel
theorem dX1_copyFrom_138 : decode cX1_copyFrom 138 = .ok (.iload_n 2, 1) := by decide +kernel
theorem dX1_copyFrom_139 : decode cX1_copyFrom 139 = .ok (.aaload, 1) := by decide +kernel
theorem dX1_copyFrom_140 : decode cX1_copyFrom 140 = .ok (.aastore, 1) := by decide +kernel
theorem dX1_copyFrom_141 : decode cX1_copyFrom 141 = .ok (.iinc 2 1, 3) := by decide +kernel
theorem dX1_copyFrom_144 : decode cX1_copyFrom 144 = .ok (.goto (-21), 3) := by decide +kernel
theorem dX1_copyFrom_147 : decode cX1_copyFrom 147 = .ok (.aload_n 0, 1) := by decide +kernel
theorem dX1_copyFrom_148 : decode cX1_copyFrom 148 = .ok (.aload_n 1, 1) := by decide +kernel
theorem dX1_copyFrom_149 : decode cX1_copyFrom 149 = .ok (.getfield 62, 3) := by decide +kernel
theorem dX1_copyFrom_152 : decode cX1_copyFrom 152 = .ok (.putfield 62, 3) := by decide +kernel
theorem dX1_copyFrom_155 : decode cX1_copyFrom 155 = .ok (.aload_n 0, 1) := by decide +kernel
theorem dX1_copyFrom_156 : decode cX1_copyFrom 156 = .ok (.aload_n 1, 1) := by decide +kernel
theorem dX1_copyFrom_157 : decode cX1_copyFrom 157 = .ok (.getfield 66, 3) := by decide +kernel
theorem dX1_copyFrom_160 : decode cX1_copyFrom 160 = .ok (.putfield 66, 3) := by decide +kernel
theorem dX1_copyFrom_163 : decode cX1_copyFrom 163 = .ok (.aload_n 0, 1) := by decide +kernel
theorem dX1_copyFrom_164 : decode cX1_copyFrom 164 = .ok (.aload_n 1, 1) := by decide +kernel
theorem dX1_copyFrom_165 : decode cX1_copyFrom 165 = .ok (.getfield 69, 3) := by decide +kernel
theorem dX1_copyFrom_168 : decode cX1_copyFrom 168 = .ok (.putfield 69, 3) := by decide +kernel
theorem dX1_copyFrom_171 : decode cX1_copyFrom 171 = .ok (.aload_n 0, 1) := by decide +kernel
theorem dX1_copyFrom_172 : decode cX1_copyFrom 172 = .ok (.aload_n 1, 1) := by decide +kernel
theorem dX1_copyFrom_173 : decode cX1_copyFrom 173 = .ok (.getfield 72, 3) := by decide +kernel
theorem dX1_copyFrom_176 : decode cX1_copyFrom 176 = .ok (.putfield 72, 3) := by decide +kernel
theorem dX1_copyFrom_179 : decode cX1_copyFrom 179 = .ok (.aload_n 0, 1) := by decide +kernel
theorem dX1_copyFrom_180 : decode cX1_copyFrom 180 = .ok (.aload_n 1, 1) := by decide +kernel
theorem dX1_copyFrom_181 : decode cX1_copyFrom 181 = .ok (.getfield 75, 3) := by decide +kernel
theorem dX1_copyFrom_184 : decode cX1_copyFrom 184 = .ok (.putfield 75, 3) := by decide +kernel
theorem dX1_copyFrom_187 : decode cX1_copyFrom 187 = .ok (.aload_n 0, 1) := by decide +kernel
theorem dX1_copyFrom_188 : decode cX1_copyFrom 188 = .ok (.aload_n 1, 1) := by decide +kernel
theorem dX1_copyFrom_189 : decode cX1_copyFrom 189 = .ok (.getfield 78, 3) := by decide +kernel
theorem dX1_copyFrom_192 : decode cX1_copyFrom 192 = .ok (.putfield 78, 3) := by decide +kernel
theorem dX1_copyFrom_195 : decode cX1_copyFrom 195 = .ok (.aload_n 0, 1) := by decide +kernel
theorem dX1_copyFrom_196 : decode cX1_copyFrom 196 = .ok (.aload_n 1, 1) := by decide +kernel
theorem dX1_copyFrom_197 : decode cX1_copyFrom 197 = .ok (.getfield 81, 3) := by decide +kernel
theorem dX1_copyFrom_200 : decode cX1_copyFrom 200 = .ok (.putfield 81, 3) := by decide +kernel
theorem dX1_copyFrom_203 : decode cX1_copyFrom 203 = .ok (.return_, 1) := by decide +kernel
theorem dX1_isFolk_0 : decode cX1_isFolk 0 = .ok (.iload_n 1, 1) := by decide +kernel
theorem dX1_isFolk_1 : decode cX1_isFolk 1 = .ok (.ifCond .lt 20, 3) := by decide +kernel
theorem dX1_isFolk_4 : decode cX1_isFolk 4 = .ok (.iload_n 1, 1) := by decide +kernel
theorem dX1_isFolk_5 : decode cX1_isFolk 5 = .ok (.aload_n 0, 1) := by decide +kernel
theorem dX1_isFolk_6 : decode cX1_isFolk 6 = .ok (.getfield 62, 3) := by decide +kernel
theorem dX1_isFolk_9 : decode cX1_isFolk 9 = .ok (.if_icmp .ge 12, 3) := by decide +kernel
theorem dX1_isFolk_12 : decode cX1_isFolk 12 = .ok (.iload_n 1, 1) := by decide +kernel
theorem dX1_isFolk_13 : decode cX1_isFolk 13 = .ok (.iconst 4, 1) := by decide +kernel
theorem dX1_isFolk_14 : decode cX1_isFolk 14 = .ok (.if_icmp .ge 7, 3) := by decide +kernel
theorem dX1_isFolk_17 : decode cX1_isFolk 17 = .ok (.iconst 1, 1) := by decide +kernel
theorem dX1_isFolk_18 : decode cX1_isFolk 18 = .ok (.goto 4, 3) := by decide +kernel
theorem dX1_isFolk_21 : decode cX1_isFolk 21 = .ok (.iconst 0, 1) := by decide +kernel
theorem dX1_isFolk_22 : decode cX1_isFolk 22 = .ok (.ireturn, 1) := by decide +kernel
theorem dX1_isBadger_0 : decode cX1_isBadger 0 = .ok (.iload_n 1, 1) := by decide +kernel
theorem dX1_isBadger_1 : decode cX1_isBadger 1 = .ok (.ifCond .lt 20, 3) := by decide +kernel
theorem dX1_isBadger_4 : decode cX1_isBadger 4 = .ok (.iload_n 1, 1) := by decide +kernel
theorem dX1_isBadger_5 : decode cX1_isBadger 5 = .ok (.aload_n 0, 1) := by decide +kernel
theorem dX1_isBadger_6 : decode cX1_isBadger 6 = .ok (.getfield 66, 3) := by decide +kernel
theorem dX1_isBadger_9 : decode cX1_isBadger 9 = .ok (.if_icmp .ge 12, 3) := by decide +kernel
theorem dX1_isBadger_12 : decode cX1_isBadger 12 = .ok (.iload_n 1, 1) := by decide +kernel
theorem dX1_isBadger_13 : decode cX1_isBadger 13 = .ok (.iconst 3, 1) := by decide +kernel
theorem dX1_isBadger_14 : decode cX1_isBadger 14 = .ok (.if_icmp .ge 7, 3) := by decide +kernel
theorem dX1_isBadger_17 : decode cX1_isBadger 17 = .ok (.iconst 1, 1) := by decide +kernel
theorem dX1_isBadger_18 : decode cX1_isBadger 18 = .ok (.goto 4, 3) := by decide +kernel
theorem dX1_isBadger_21 : decode cX1_isBadger 21 = .ok (.iconst 0, 1) := by decide +kernel
theorem dX1_isBadger_22 : decode cX1_isBadger 22 = .ok (.ireturn, 1) := by decide +kernel
theorem dX1_isThing_0 : decode cX1_isThing 0 = .ok (.iload_n 1, 1) := by decide +kernel
theorem dX1_isThing_1 : decode cX1_isThing 1 = .ok (.ifCond .lt 21, 3) := by decide +kernel
theorem dX1_isThing_4 : decode cX1_isThing 4 = .ok (.iload_n 1, 1) := by decide +kernel
theorem dX1_isThing_5 : decode cX1_isThing 5 = .ok (.aload_n 0, 1) := by decide +kernel
theorem dX1_isThing_6 : decode cX1_isThing 6 = .ok (.getfield 69, 3) := by decide +kernel
theorem dX1_isThing_9 : decode cX1_isThing 9 = .ok (.if_icmp .ge 13, 3) := by decide +kernel
theorem dX1_isThing_12 : decode cX1_isThing 12 = .ok (.iload_n 1, 1) := by decide +kernel
theorem dX1_isThing_13 : decode cX1_isThing 13 = .ok (.bipush 6, 2) := by decide +kernel
theorem dX1_isThing_15 : decode cX1_isThing 15 = .ok (.if_icmp .ge 7, 3) := by decide +kernel
theorem dX1_isThing_18 : decode cX1_isThing 18 = .ok (.iconst 1, 1) := by decide +kernel
theorem dX1_isThing_19 : decode cX1_isThing 19 = .ok (.goto 4, 3) := by decide +kernel
theorem dX1_isThing_22 : decode cX1_isThing 22 = .ok (.iconst 0, 1) := by decide +kernel
theorem dX1_isThing_23 : decode cX1_isThing 23 = .ok (.ireturn, 1) := by decide +kernel
theorem dX1_isLaw_0 : decode cX1_isLaw 0 = .ok (.iload_n 1, 1) := by decide +kernel
theorem dX1_isLaw_1 : decode cX1_isLaw 1 = .ok (.ifCond .lt 21, 3) := by decide +kernel
theorem dX1_isLaw_4 : decode cX1_isLaw 4 = .ok (.iload_n 1, 1) := by decide +kernel
theorem dX1_isLaw_5 : decode cX1_isLaw 5 = .ok (.aload_n 0, 1) := by decide +kernel
theorem dX1_isLaw_6 : decode cX1_isLaw 6 = .ok (.getfield 75, 3) := by decide +kernel
theorem dX1_isLaw_9 : decode cX1_isLaw 9 = .ok (.if_icmp .ge 13, 3) := by decide +kernel
theorem dX1_isLaw_12 : decode cX1_isLaw 12 = .ok (.iload_n 1, 1) := by decide +kernel
theorem dX1_isLaw_13 : decode cX1_isLaw 13 = .ok (.bipush 6, 2) := by decide +kernel
theorem dX1_isLaw_15 : decode cX1_isLaw 15 = .ok (.if_icmp .ge 7, 3) := by decide +kernel
theorem dX1_isLaw_18 : decode cX1_isLaw 18 = .ok (.iconst 1, 1) := by decide +kernel
theorem dX1_isLaw_19 : decode cX1_isLaw 19 = .ok (.goto 4, 3) := by decide +kernel
theorem dX1_isLaw_22 : decode cX1_isLaw 22 = .ok (.iconst 0, 1) := by decide +kernel
theorem dX1_isLaw_23 : decode cX1_isLaw 23 = .ok (.ireturn, 1) := by decide +kernel
theorem dX1_isOpen_0 : decode cX1_isOpen 0 = .ok (.iload_n 1, 1) := by decide +kernel
theorem dX1_isOpen_1 : decode cX1_isOpen 1 = .ok (.i2l, 1) := by decide +kernel
theorem dX1_isOpen_2 : decode cX1_isOpen 2 = .ok (.invokestatic 92, 3) := by decide +kernel
theorem dX1_isOpen_5 : decode cX1_isOpen 5 = .ok (.ifCond .eq 28, 3) := by decide +kernel
theorem dX1_isOpen_8 : decode cX1_isOpen 8 = .ok (.iload_n 2, 1) := by decide +kernel
theorem dX1_isOpen_9 : decode cX1_isOpen 9 = .ok (.i2l, 1) := by decide +kernel
theorem dX1_isOpen_10 : decode cX1_isOpen 10 = .ok (.invokestatic 92, 3) := by decide +kernel
theorem dX1_isOpen_13 : decode cX1_isOpen 13 = .ok (.ifCond .eq 20, 3) := by decide +kernel
theorem dX1_isOpen_16 : decode cX1_isOpen 16 = .ok (.aload_n 0, 1) := by decide +kernel
theorem dX1_isOpen_17 : decode cX1_isOpen 17 = .ok (.getfield 18, 3) := by decide +kernel
theorem dX1_isOpen_20 : decode cX1_isOpen 20 = .ok (.iload_n 1, 1) := by decide +kernel
theorem dX1_isOpen_21 : decode cX1_isOpen 21 = .ok (.iaload, 1) := by decide +kernel
theorem dX1_isOpen_22 : decode cX1_isOpen 22 = .ok (.iload_n 2, 1) := by decide +kernel
theorem dX1_isOpen_23 : decode cX1_isOpen 23 = .ok (.invokestatic 96, 3) := by decide +kernel
theorem dX1_isOpen_26 : decode cX1_isOpen 26 = .ok (.ifCond .eq 7, 3) := by decide +kernel
theorem dX1_isOpen_29 : decode cX1_isOpen 29 = .ok (.iconst 1, 1) := by decide +kernel
theorem dX1_isOpen_30 : decode cX1_isOpen 30 = .ok (.goto 4, 3) := by decide +kernel
theorem dX1_isOpen_33 : decode cX1_isOpen 33 = .ok (.iconst 0, 1) := by decide +kernel
theorem dX1_isOpen_34 : decode cX1_isOpen 34 = .ok (.ireturn, 1) := by decide +kernel
theorem dX1_turnDoor_0 : decode cX1_turnDoor 0 = .ok (.iload_n 1, 1) := by decide +kernel
theorem dX1_turnDoor_1 : decode cX1_turnDoor 1 = .ok (.i2l, 1) := by decide +kernel
theorem dX1_turnDoor_2 : decode cX1_turnDoor 2 = .ok (.invokestatic 92, 3) := by decide +kernel
theorem dX1_turnDoor_5 : decode cX1_turnDoor 5 = .ok (.ifCond .eq 35, 3) := by decide +kernel
theorem dX1_turnDoor_8 : decode cX1_turnDoor 8 = .ok (.iload_n 2, 1) := by decide +kernel
theorem dX1_turnDoor_9 : decode cX1_turnDoor 9 = .ok (.i2l, 1) := by decide +kernel
theorem dX1_turnDoor_10 : decode cX1_turnDoor 10 = .ok (.invokestatic 92, 3) := by decide +kernel
theorem dX1_turnDoor_13 : decode cX1_turnDoor 13 = .ok (.ifCond .eq 27, 3) := by decide +kernel
theorem dX1_turnDoor_16 : decode cX1_turnDoor 16 = .ok (.aload_n 0, 1) := by decide +kernel
theorem dX1_turnDoor_17 : decode cX1_turnDoor 17 = .ok (.getfield 18, 3) := by decide +kernel
theorem dX1_turnDoor_20 : decode cX1_turnDoor 20 = .ok (.iload_n 1, 1) := by decide +kernel
theorem dX1_turnDoor_21 : decode cX1_turnDoor 21 = .ok (.dup2, 1) := by decide +kernel
theorem dX1_turnDoor_22 : decode cX1_turnDoor 22 = .ok (.iaload, 1) := by decide +kernel
theorem dX1_turnDoor_23 : decode cX1_turnDoor 23 = .ok (.iconst 1, 1) := by decide +kernel
theorem dX1_turnDoor_24 : decode cX1_turnDoor 24 = .ok (.iload_n 2, 1) := by decide +kernel
theorem dX1_turnDoor_25 : decode cX1_turnDoor 25 = .ok (.ishl, 1) := by decide +kernel
theorem dX1_turnDoor_26 : decode cX1_turnDoor 26 = .ok (.ixor, 1) := by decide +kernel
theorem dX1_turnDoor_27 : decode cX1_turnDoor 27 = .ok (.iastore, 1) := by decide +kernel
theorem dX1_turnDoor_28 : decode cX1_turnDoor 28 = .ok (.aload_n 0, 1) := by decide +kernel
theorem dX1_turnDoor_29 : decode cX1_turnDoor 29 = .ok (.getfield 18, 3) := by decide +kernel
theorem dX1_turnDoor_32 : decode cX1_turnDoor 32 = .ok (.iload_n 2, 1) := by decide +kernel
theorem dX1_turnDoor_33 : decode cX1_turnDoor 33 = .ok (.dup2, 1) := by decide +kernel
theorem dX1_turnDoor_34 : decode cX1_turnDoor 34 = .ok (.iaload, 1) := by decide +kernel
theorem dX1_turnDoor_35 : decode cX1_turnDoor 35 = .ok (.iconst 1, 1) := by decide +kernel
theorem dX1_turnDoor_36 : decode cX1_turnDoor 36 = .ok (.iload_n 1, 1) := by decide +kernel
theorem dX1_turnDoor_37 : decode cX1_turnDoor 37 = .ok (.ishl, 1) := by decide +kernel
theorem dX1_turnDoor_38 : decode cX1_turnDoor 38 = .ok (.ixor, 1) := by decide +kernel
theorem dX1_turnDoor_39 : decode cX1_turnDoor 39 = .ok (.iastore, 1) := by decide +kernel
theorem dX1_turnDoor_40 : decode cX1_turnDoor 40 = .ok (.return_, 1) := by decide +kernel
theorem dX1_badgersIn_0 : decode cX1_badgersIn 0 = .ok (.iconst 0, 1) := by decide +kernel
theorem dX1_badgersIn_1 : decode cX1_badgersIn 1 = .ok (.istore_n 2, 1) := by decide +kernel
theorem dX1_badgersIn_2 : decode cX1_badgersIn 2 = .ok (.iconst 0, 1) := by decide +kernel
theorem dX1_badgersIn_3 : decode cX1_badgersIn 3 = .ok (.istore_n 3, 1) := by decide +kernel
theorem dX1_badgersIn_4 : decode cX1_badgersIn 4 = .ok (.iload_n 3, 1) := by decide +kernel
theorem dX1_badgersIn_5 : decode cX1_badgersIn 5 = .ok (.aload_n 0, 1) := by decide +kernel
theorem dX1_badgersIn_6 : decode cX1_badgersIn 6 = .ok (.getfield 66, 3) := by decide +kernel
theorem dX1_badgersIn_9 : decode cX1_badgersIn 9 = .ok (.if_icmp .ge 27, 3) := by decide +kernel
theorem dX1_badgersIn_12 : decode cX1_badgersIn 12 = .ok (.iload_n 3, 1) := by decide +kernel
theorem dX1_badgersIn_13 : decode cX1_badgersIn 13 = .ok (.iconst 3, 1) := by decide +kernel
theorem dX1_badgersIn_14 : decode cX1_badgersIn 14 = .ok (.if_icmp .ge 22, 3) := by decide +kernel
theorem dX1_badgersIn_17 : decode cX1_badgersIn 17 = .ok (.aload_n 0, 1) := by decide +kernel
theorem dX1_badgersIn_18 : decode cX1_badgersIn 18 = .ok (.getfield 28, 3) := by decide +kernel
theorem dX1_badgersIn_21 : decode cX1_badgersIn 21 = .ok (.iload_n 3, 1) := by decide +kernel
theorem dX1_badgersIn_22 : decode cX1_badgersIn 22 = .ok (.iaload, 1) := by decide +kernel
theorem dX1_badgersIn_23 : decode cX1_badgersIn 23 = .ok (.iload_n 1, 1) := by decide +kernel
theorem dX1_badgersIn_24 : decode cX1_badgersIn 24 = .ok (.if_icmp .ne 6, 3) := by decide +kernel
theorem dX1_badgersIn_27 : decode cX1_badgersIn 27 = .ok (.iinc 2 1, 3) := by decide +kernel
theorem dX1_badgersIn_30 : decode cX1_badgersIn 30 = .ok (.iinc 3 1, 3) := by decide +kernel
theorem dX1_badgersIn_33 : decode cX1_badgersIn 33 = .ok (.goto (-29), 3) := by decide +kernel
theorem dX1_badgersIn_36 : decode cX1_badgersIn 36 = .ok (.iload_n 2, 1) := by decide +kernel
theorem dX1_badgersIn_37 : decode cX1_badgersIn 37 = .ok (.ireturn, 1) := by decide +kernel
theorem dX1_lawInForce_0 : decode cX1_lawInForce 0 = .ok (.aload_n 0, 1) := by decide +kernel
theorem dX1_lawInForce_1 : decode cX1_lawInForce 1 = .ok (.aload_n 0, 1) := by decide +kernel
theorem dX1_lawInForce_2 : decode cX1_lawInForce 2 = .ok (.getfield 81, 3) := by decide +kernel
theorem dX1_lawInForce_5 : decode cX1_lawInForce 5 = .ok (.invokevirtual 100, 3) := by decide +kernel
theorem dX1_lawInForce_8 : decode cX1_lawInForce 8 = .ok (.ifCond .eq 15, 3) := by decide +kernel
theorem dX1_lawInForce_11 : decode cX1_lawInForce 11 = .ok (.aload_n 0, 1) := by decide +kernel
theorem dX1_lawInForce_12 : decode cX1_lawInForce 12 = .ok (.getfield 51, 3) := by decide +kernel
theorem dX1_lawInForce_15 : decode cX1_lawInForce 15 = .ok (.aload_n 0, 1) := by decide +kernel
theorem dX1_lawInForce_16 : decode cX1_lawInForce 16 = .ok (.getfield 81, 3) := by decide +kernel
theorem dX1_lawInForce_19 : decode cX1_lawInForce 19 = .ok (.aaload, 1) := by decide +kernel
theorem dX1_lawInForce_20 : decode cX1_lawInForce 20 = .ok (.goto 4, 3) := by decide +kernel
theorem dX1_lawInForce_23 : decode cX1_lawInForce 23 = .ok (.aconst_null, 1) := by decide +kernel
theorem dX1_lawInForce_24 : decode cX1_lawInForce 24 = .ok (.areturn, 1) := by decide +kernel
theorem dX1_theirsBy_0 : decode cX1_theirsBy 0 = .ok (.aload_n 1, 1) := by decide +kernel
theorem dX1_theirsBy_1 : decode cX1_theirsBy 1 = .ok (.ifnull 54, 3) := by decide +kernel
theorem dX1_theirsBy_4 : decode cX1_theirsBy 4 = .ok (.aload_n 0, 1) := by decide +kernel
theorem dX1_theirsBy_5 : decode cX1_theirsBy 5 = .ok (.getfield 58, 3) := by decide +kernel
theorem dX1_theirsBy_8 : decode cX1_theirsBy 8 = .ok (.iload_n 2, 1) := by decide +kernel
theorem dX1_theirsBy_9 : decode cX1_theirsBy 9 = .ok (.iload_n 3, 1) := by decide +kernel
theorem dX1_theirsBy_10 : decode cX1_theirsBy 10 = .ok (.aload_n 0, 1) := by decide +kernel
theorem dX1_theirsBy_11 : decode cX1_theirsBy 11 = .ok (.getfield 46, 3) := by decide +kernel
theorem dX1_theirsBy_14 : decode cX1_theirsBy 14 = .ok (.iconst 2, 1) := by decide +kernel
theorem dX1_theirsBy_15 : decode cX1_theirsBy 15 = .ok (.iaload, 1) := by decide +kernel
theorem dX1_theirsBy_16 : decode cX1_theirsBy 16 = .ok (.invokevirtual 104, 3) := by decide +kernel
theorem dX1_theirsBy_19 : decode cX1_theirsBy 19 = .ok (.aload_n 1, 1) := by decide +kernel
theorem dX1_theirsBy_20 : decode cX1_theirsBy 20 = .ok (.sipush 300, 3) := by decide +kernel
theorem dX1_theirsBy_23 : decode cX1_theirsBy 23 = .ok (.aload_n 0, 1) := by decide +kernel
theorem dX1_theirsBy_24 : decode cX1_theirsBy 24 = .ok (.getfield 58, 3) := by decide +kernel
theorem dX1_theirsBy_27 : decode cX1_theirsBy 27 = .ok (.invokevirtual 108, 3) := by decide +kernel
theorem dX1_theirsBy_30 : decode cX1_theirsBy 30 = .ok (.lstore 4, 2) := by decide +kernel
theorem dX1_theirsBy_32 : decode cX1_theirsBy 32 = .ok (.lload 4, 2) := by decide +kernel
theorem dX1_theirsBy_34 : decode cX1_theirsBy 34 = .ok (.ldc2_w 112, 3) := by decide +kernel
theorem dX1_theirsBy_37 : decode cX1_theirsBy 37 = .ok (.lcmp, 1) := by decide +kernel
theorem dX1_theirsBy_38 : decode cX1_theirsBy 38 = .ok (.ifCond .eq 17, 3) := by decide +kernel
theorem dX1_theirsBy_41 : decode cX1_theirsBy 41 = .ok (.lconst 0, 1) := by decide +kernel
theorem dX1_theirsBy_42 : decode cX1_theirsBy 42 = .ok (.ldc2_w 114, 3) := by decide +kernel
theorem dX1_theirsBy_45 : decode cX1_theirsBy 45 = .ok (.lload 4, 2) := by decide +kernel
theorem dX1_theirsBy_47 : decode cX1_theirsBy 47 = .ok (.invokestatic 116, 3) := by decide +kernel
theorem dX1_theirsBy_50 : decode cX1_theirsBy 50 = .ok (.invokestatic 122, 3) := by decide +kernel
theorem dX1_theirsBy_53 : decode cX1_theirsBy 53 = .ok (.l2i, 1) := by decide +kernel
theorem dX1_theirsBy_54 : decode cX1_theirsBy 54 = .ok (.ireturn, 1) := by decide +kernel
theorem dX1_theirsBy_55 : decode cX1_theirsBy 55 = .ok (.iload_n 3, 1) := by decide +kernel
theorem dX1_theirsBy_56 : decode cX1_theirsBy 56 = .ok (.bipush 24, 2) := by decide +kernel
theorem dX1_theirsBy_58 : decode cX1_theirsBy 58 = .ok (.irem, 1) := by decide +kernel
theorem dX1_theirsBy_59 : decode cX1_theirsBy 59 = .ok (.istore 4, 2) := by decide +kernel
theorem dX1_theirsBy_61 : decode cX1_theirsBy 61 = .ok (.iload 4, 2) := by decide +kernel
theorem dX1_theirsBy_63 : decode cX1_theirsBy 63 = .ok (.bipush 18, 2) := by decide +kernel
theorem dX1_theirsBy_65 : decode cX1_theirsBy 65 = .ok (.if_icmp .ge 9, 3) := by decide +kernel
theorem dX1_theirsBy_68 : decode cX1_theirsBy 68 = .ok (.iload 4, 2) := by decide +kernel
theorem dX1_theirsBy_70 : decode cX1_theirsBy 70 = .ok (.iconst 5, 1) := by decide +kernel
theorem dX1_theirsBy_71 : decode cX1_theirsBy 71 = .ok (.if_icmp .gt 7, 3) := by decide +kernel
theorem dX1_theirsBy_74 : decode cX1_theirsBy 74 = .ok (.iconst 2, 1) := by decide +kernel
theorem dX1_theirsBy_75 : decode cX1_theirsBy 75 = .ok (.goto 4, 3) := by decide +kernel
theorem dX1_theirsBy_78 : decode cX1_theirsBy 78 = .ok (.iconst 0, 1) := by decide +kernel
theorem dX1_theirsBy_79 : decode cX1_theirsBy 79 = .ok (.ireturn, 1) := by decide +kernel
theorem dX1_whither_0 : decode cX1_whither 0 = .ok (.iload_n 2, 1) := by decide +kernel
theorem dX1_whither_1 : decode cX1_whither 1 = .ok (.iconst 1, 1) := by decide +kernel
theorem dX1_whither_2 : decode cX1_whither 2 = .ok (.iadd, 1) := by decide +kernel
theorem dX1_whither_3 : decode cX1_whither 3 = .ok (.bipush 6, 2) := by decide +kernel
theorem dX1_whither_5 : decode cX1_whither 5 = .ok (.irem, 1) := by decide +kernel
theorem dX1_whither_6 : decode cX1_whither 6 = .ok (.i2l, 1) := by decide +kernel
theorem dX1_whither_7 : decode cX1_whither 7 = .ok (.lstore 4, 2) := by decide +kernel
theorem dX1_whither_9 : decode cX1_whither 9 = .ok (.aload_n 0, 1) := by decide +kernel
theorem dX1_whither_10 : decode cX1_whither 10 = .ok (.invokevirtual 125, 3) := by decide +kernel
theorem dX1_whither_13 : decode cX1_whither 13 = .ok (.astore 6, 2) := by decide +kernel
theorem dX1_whither_15 : decode cX1_whither 15 = .ok (.aload 6, 2) := by decide +kernel
theorem dX1_whither_17 : decode cX1_whither 17 = .ok (.ifnull 60, 3) := by decide +kernel
theorem dX1_whither_20 : decode cX1_whither 20 = .ok (.aload_n 0, 1) := by decide +kernel
theorem dX1_whither_21 : decode cX1_whither 21 = .ok (.getfield 58, 3) := by decide +kernel
theorem dX1_whither_24 : decode cX1_whither 24 = .ok (.iload_n 2, 1) := by decide +kernel
theorem dX1_whither_25 : decode cX1_whither 25 = .ok (.iload_n 3, 1) := by decide +kernel
theorem dX1_whither_26 : decode cX1_whither 26 = .ok (.aload_n 0, 1) := by decide +kernel
theorem dX1_whither_27 : decode cX1_whither 27 = .ok (.getfield 46, 3) := by decide +kernel
theorem dX1_whither_30 : decode cX1_whither 30 = .ok (.iconst 2, 1) := by decide +kernel
theorem dX1_whither_31 : decode cX1_whither 31 = .ok (.iaload, 1) := by decide +kernel
theorem dX1_whither_32 : decode cX1_whither 32 = .ok (.invokevirtual 104, 3) := by decide +kernel
theorem dX1_whither_35 : decode cX1_whither 35 = .ok (.aload_n 0, 1) := by decide +kernel
theorem dX1_whither_36 : decode cX1_whither 36 = .ok (.getfield 58, 3) := by decide +kernel
theorem dX1_whither_39 : decode cX1_whither 39 = .ok (.getfield 129, 3) := by decide +kernel
theorem dX1_whither_42 : decode cX1_whither 42 = .ok (.iconst 3, 1) := by decide +kernel
theorem dX1_whither_43 : decode cX1_whither 43 = .ok (.iload_n 1, 1) := by decide +kernel
theorem dX1_whither_44 : decode cX1_whither 44 = .ok (.iastore, 1) := by decide +kernel
theorem dX1_whither_45 : decode cX1_whither 45 = .ok (.aload 6, 2) := by decide +kernel
theorem dX1_whither_47 : decode cX1_whither 47 = .ok (.sipush 301, 3) := by decide +kernel
theorem dX1_whither_50 : decode cX1_whither 50 = .ok (.aload_n 0, 1) := by decide +kernel
theorem dX1_whither_51 : decode cX1_whither 51 = .ok (.getfield 58, 3) := by decide +kernel
theorem dX1_whither_54 : decode cX1_whither 54 = .ok (.invokevirtual 108, 3) := by decide +kernel
theorem dX1_whither_57 : decode cX1_whither 57 = .ok (.lstore 7, 2) := by decide +kernel
theorem dX1_whither_59 : decode cX1_whither 59 = .ok (.lload 7, 2) := by decide +kernel
theorem dX1_whither_61 : decode cX1_whither 61 = .ok (.ldc2_w 112, 3) := by decide +kernel
theorem dX1_whither_64 : decode cX1_whither 64 = .ok (.lcmp, 1) := by decide +kernel
theorem dX1_whither_65 : decode cX1_whither 65 = .ok (.ifCond .ne 8, 3) := by decide +kernel
theorem dX1_whither_68 : decode cX1_whither 68 = .ok (.lload 4, 2) := by decide +kernel
theorem dX1_whither_70 : decode cX1_whither 70 = .ok (.goto 5, 3) := by decide +kernel
theorem dX1_whither_73 : decode cX1_whither 73 = .ok (.lload 7, 2) := by decide +kernel
theorem dX1_whither_75 : decode cX1_whither 75 = .ok (.lstore 4, 2) := by decide +kernel
theorem dX1_whither_77 : decode cX1_whither 77 = .ok (.lload 4, 2) := by decide +kernel
theorem dX1_whither_79 : decode cX1_whither 79 = .ok (.invokestatic 92, 3) := by decide +kernel
theorem dX1_whither_82 : decode cX1_whither 82 = .ok (.ifCond .eq 20, 3) := by decide +kernel
theorem dX1_whither_85 : decode cX1_whither 85 = .ok (.aload_n 0, 1) := by decide +kernel
theorem dX1_whither_86 : decode cX1_whither 86 = .ok (.iload_n 2, 1) := by decide +kernel
theorem dX1_whither_87 : decode cX1_whither 87 = .ok (.lload 4, 2) := by decide +kernel
theorem dX1_whither_89 : decode cX1_whither 89 = .ok (.l2i, 1) := by decide +kernel
theorem dX1_whither_90 : decode cX1_whither 90 = .ok (.invokevirtual 132, 3) := by decide +kernel
theorem dX1_whither_93 : decode cX1_whither 93 = .ok (.ifCond .eq 9, 3) := by decide +kernel
theorem dX1_whither_96 : decode cX1_whither 96 = .ok (.lload 4, 2) := by decide +kernel
theorem dX1_whither_98 : decode cX1_whither 98 = .ok (.l2i, 1) := by decide +kernel
theorem dX1_whither_99 : decode cX1_whither 99 = .ok (.goto 4, 3) := by decide +kernel
theorem dX1_whither_102 : decode cX1_whither 102 = .ok (.iload_n 2, 1) := by decide +kernel
theorem dX1_whither_103 : decode cX1_whither 103 = .ok (.ireturn, 1) := by decide +kernel
theorem dX1_isBarred_0 : decode cX1_isBarred 0 = .ok (.aload_n 0, 1) := by decide +kernel
theorem dX1_isBarred_1 : decode cX1_isBarred 1 = .ok (.invokevirtual 125, 3) := by decide +kernel
theorem dX1_isBarred_4 : decode cX1_isBarred 4 = .ok (.astore 4, 2) := by decide +kernel
theorem dX1_isBarred_6 : decode cX1_isBarred 6 = .ok (.aload 4, 2) := by decide +kernel
theorem dX1_isBarred_8 : decode cX1_isBarred 8 = .ok (.ifnull 22, 3) := by decide +kernel
theorem dX1_isBarred_11 : decode cX1_isBarred 11 = .ok (.aload_n 0, 1) := by decide +kernel
theorem dX1_isBarred_12 : decode cX1_isBarred 12 = .ok (.iload_n 1, 1) := by decide +kernel
theorem dX1_isBarred_13 : decode cX1_isBarred 13 = .ok (.invokevirtual 135, 3) := by decide +kernel
theorem dX1_isBarred_16 : decode cX1_isBarred 16 = .ok (.ifCond .eq 14, 3) := by decide +kernel
theorem dX1_isBarred_19 : decode cX1_isBarred 19 = .ok (.aload_n 0, 1) := by decide +kernel
theorem dX1_isBarred_20 : decode cX1_isBarred 20 = .ok (.getfield 12, 3) := by decide +kernel
theorem dX1_isBarred_23 : decode cX1_isBarred 23 = .ok (.iload_n 2, 1) := by decide +kernel
theorem dX1_isBarred_24 : decode cX1_isBarred 24 = .ok (.invokevirtual 138, 3) := by decide +kernel
theorem dX1_isBarred_27 : decode cX1_isBarred 27 = .ok (.ifCond .ne 5, 3) := by decide +kernel
theorem dX1_isBarred_30 : decode cX1_isBarred 30 = .ok (.iconst 0, 1) := by decide +kernel
theorem dX1_isBarred_31 : decode cX1_isBarred 31 = .ok (.ireturn, 1) := by decide +kernel
theorem dX1_isBarred_32 : decode cX1_isBarred 32 = .ok (.aload_n 0, 1) := by decide +kernel
theorem dX1_isBarred_33 : decode cX1_isBarred 33 = .ok (.getfield 58, 3) := by decide +kernel
theorem dX1_isBarred_36 : decode cX1_isBarred 36 = .ok (.aload_n 0, 1) := by decide +kernel
theorem dX1_isBarred_37 : decode cX1_isBarred 37 = .ok (.getfield 12, 3) := by decide +kernel
theorem dX1_isBarred_40 : decode cX1_isBarred 40 = .ok (.iload_n 2, 1) := by decide +kernel
theorem dX1_isBarred_41 : decode cX1_isBarred 41 = .ok (.invokevirtual 141, 3) := by decide +kernel
theorem dX1_isBarred_44 : decode cX1_isBarred 44 = .ok (.iload_n 3, 1) := by decide +kernel
theorem dX1_isBarred_45 : decode cX1_isBarred 45 = .ok (.aload_n 0, 1) := by decide +kernel
theorem dX1_isBarred_46 : decode cX1_isBarred 46 = .ok (.getfield 46, 3) := by decide +kernel
theorem dX1_isBarred_49 : decode cX1_isBarred 49 = .ok (.iconst 2, 1) := by decide +kernel
theorem dX1_isBarred_50 : decode cX1_isBarred 50 = .ok (.iaload, 1) := by decide +kernel
theorem dX1_isBarred_51 : decode cX1_isBarred 51 = .ok (.invokevirtual 104, 3) := by decide +kernel
theorem dX1_isBarred_54 : decode cX1_isBarred 54 = .ok (.aload_n 0, 1) := by decide +kernel
theorem dX1_isBarred_55 : decode cX1_isBarred 55 = .ok (.getfield 58, 3) := by decide +kernel
theorem dX1_isBarred_58 : decode cX1_isBarred 58 = .ok (.getfield 129, 3) := by decide +kernel
theorem dX1_isBarred_61 : decode cX1_isBarred 61 = .ok (.iconst 4, 1) := by decide +kernel
theorem dX1_isBarred_62 : decode cX1_isBarred 62 = .ok (.iload_n 1, 1) := by decide +kernel
theorem dX1_isBarred_63 : decode cX1_isBarred 63 = .ok (.iastore, 1) := by decide +kernel
theorem dX1_isBarred_64 : decode cX1_isBarred 64 = .ok (.aload_n 0, 1) := by decide +kernel
theorem dX1_isBarred_65 : decode cX1_isBarred 65 = .ok (.getfield 58, 3) := by decide +kernel
theorem dX1_isBarred_68 : decode cX1_isBarred 68 = .ok (.getfield 129, 3) := by decide +kernel
theorem dX1_isBarred_71 : decode cX1_isBarred 71 = .ok (.iconst 5, 1) := by decide +kernel
theorem dX1_isBarred_72 : decode cX1_isBarred 72 = .ok (.aload_n 0, 1) := by decide +kernel
theorem dX1_isBarred_73 : decode cX1_isBarred 73 = .ok (.getfield 22, 3) := by decide +kernel
theorem dX1_isBarred_76 : decode cX1_isBarred 76 = .ok (.iload_n 1, 1) := by decide +kernel
theorem dX1_isBarred_77 : decode cX1_isBarred 77 = .ok (.iaload, 1) := by decide +kernel
theorem dX1_isBarred_78 : decode cX1_isBarred 78 = .ok (.iastore, 1) := by decide +kernel
theorem dX1_isBarred_79 : decode cX1_isBarred 79 = .ok (.aload_n 0, 1) := by decide +kernel
theorem dX1_isBarred_80 : decode cX1_isBarred 80 = .ok (.getfield 58, 3) := by decide +kernel
theorem dX1_isBarred_83 : decode cX1_isBarred 83 = .ok (.getfield 129, 3) := by decide +kernel
theorem dX1_isBarred_86 : decode cX1_isBarred 86 = .ok (.bipush 6, 2) := by decide +kernel
theorem dX1_isBarred_88 : decode cX1_isBarred 88 = .ok (.iload_n 2, 1) := by decide +kernel
theorem dX1_isBarred_89 : decode cX1_isBarred 89 = .ok (.iastore, 1) := by decide +kernel
theorem dX1_isBarred_90 : decode cX1_isBarred 90 = .ok (.aload_n 0, 1) := by decide +kernel
theorem dX1_isBarred_91 : decode cX1_isBarred 91 = .ok (.getfield 58, 3) := by decide +kernel
theorem dX1_isBarred_94 : decode cX1_isBarred 94 = .ok (.getfield 129, 3) := by decide +kernel
theorem dX1_isBarred_97 : decode cX1_isBarred 97 = .ok (.bipush 7, 2) := by decide +kernel
theorem dX1_isBarred_99 : decode cX1_isBarred 99 = .ok (.aload_n 0, 1) := by decide +kernel
theorem dX1_isBarred_100 : decode cX1_isBarred 100 = .ok (.getfield 12, 3) := by decide +kernel
theorem dX1_isBarred_103 : decode cX1_isBarred 103 = .ok (.iload_n 2, 1) := by decide +kernel
theorem dX1_isBarred_104 : decode cX1_isBarred 104 = .ok (.invokevirtual 145, 3) := by decide +kernel
theorem dX1_isBarred_107 : decode cX1_isBarred 107 = .ok (.iastore, 1) := by decide +kernel
theorem dX1_isBarred_108 : decode cX1_isBarred 108 = .ok (.aload 4, 2) := by decide +kernel
theorem dX1_isBarred_110 : decode cX1_isBarred 110 = .ok (.sipush 302, 3) := by decide +kernel
theorem dX1_isBarred_113 : decode cX1_isBarred 113 = .ok (.aload_n 0, 1) := by decide +kernel
theorem dX1_isBarred_114 : decode cX1_isBarred 114 = .ok (.getfield 58, 3) := by decide +kernel
theorem dX1_isBarred_117 : decode cX1_isBarred 117 = .ok (.invokevirtual 108, 3) := by decide +kernel
theorem dX1_isBarred_120 : decode cX1_isBarred 120 = .ok (.ldc2_w 112, 3) := by decide +kernel
theorem dX1_isBarred_123 : decode cX1_isBarred 123 = .ok (.lcmp, 1) := by decide +kernel
theorem dX1_isBarred_124 : decode cX1_isBarred 124 = .ok (.ifCond .eq 7, 3) := by decide +kernel
theorem dX1_isBarred_127 : decode cX1_isBarred 127 = .ok (.iconst 1, 1) := by decide +kernel
theorem dX1_isBarred_128 : decode cX1_isBarred 128 = .ok (.goto 4, 3) := by decide +kernel
theorem dX1_isBarred_131 : decode cX1_isBarred 131 = .ok (.iconst 0, 1) := by decide +kernel
theorem dX1_isBarred_132 : decode cX1_isBarred 132 = .ok (.ireturn, 1) := by decide +kernel
theorem dX1_unbarred_0 : decode cX1_unbarred 0 = .ok (.iconst 0, 1) := by decide +kernel
theorem dX1_unbarred_1 : decode cX1_unbarred 1 = .ok (.istore 4, 2) := by decide +kernel
theorem dX1_unbarred_3 : decode cX1_unbarred 3 = .ok (.iconst 0, 1) := by decide +kernel
theorem dX1_unbarred_4 : decode cX1_unbarred 4 = .ok (.istore 5, 2) := by decide +kernel
theorem dX1_unbarred_6 : decode cX1_unbarred 6 = .ok (.iload 5, 2) := by decide +kernel
theorem dX1_unbarred_8 : decode cX1_unbarred 8 = .ok (.aload_n 0, 1) := by decide +kernel
theorem dX1_unbarred_9 : decode cX1_unbarred 9 = .ok (.getfield 12, 3) := by decide +kernel
theorem dX1_unbarred_12 : decode cX1_unbarred 12 = .ok (.getfield 148, 3) := by decide +kernel
theorem dX1_unbarred_15 : decode cX1_unbarred 15 = .ok (.if_icmp .ge 38, 3) := by decide +kernel
theorem dX1_unbarred_18 : decode cX1_unbarred 18 = .ok (.iload_n 2, 1) := by decide +kernel
theorem dX1_unbarred_19 : decode cX1_unbarred 19 = .ok (.iload 5, 2) := by decide +kernel
theorem dX1_unbarred_21 : decode cX1_unbarred 21 = .ok (.invokestatic 96, 3) := by decide +kernel
theorem dX1_unbarred_24 : decode cX1_unbarred 24 = .ok (.ifCond .eq 23, 3) := by decide +kernel
theorem dX1_unbarred_27 : decode cX1_unbarred 27 = .ok (.aload_n 0, 1) := by decide +kernel
theorem dX1_unbarred_28 : decode cX1_unbarred 28 = .ok (.iload_n 1, 1) := by decide +kernel
theorem dX1_unbarred_29 : decode cX1_unbarred 29 = .ok (.iload 5, 2) := by decide +kernel
theorem dX1_unbarred_31 : decode cX1_unbarred 31 = .ok (.iload_n 3, 1) := by decide +kernel
theorem dX1_unbarred_32 : decode cX1_unbarred 32 = .ok (.invokevirtual 151, 3) := by decide +kernel
theorem dX1_unbarred_35 : decode cX1_unbarred 35 = .ok (.ifCond .ne 12, 3) := by decide +kernel
theorem dX1_unbarred_38 : decode cX1_unbarred 38 = .ok (.iload 4, 2) := by decide +kernel
theorem dX1_unbarred_40 : decode cX1_unbarred 40 = .ok (.iconst 1, 1) := by decide +kernel
theorem dX1_unbarred_41 : decode cX1_unbarred 41 = .ok (.iload 5, 2) := by decide +kernel
theorem dX1_unbarred_43 : decode cX1_unbarred 43 = .ok (.ishl, 1) := by decide +kernel
theorem dX1_unbarred_44 : decode cX1_unbarred 44 = .ok (.ior, 1) := by decide +kernel
theorem dX1_unbarred_45 : decode cX1_unbarred 45 = .ok (.istore 4, 2) := by decide +kernel
theorem dX1_unbarred_47 : decode cX1_unbarred 47 = .ok (.iinc 5 1, 3) := by decide +kernel
theorem dX1_unbarred_50 : decode cX1_unbarred 50 = .ok (.goto (-44), 3) := by decide +kernel
theorem dX1_unbarred_53 : decode cX1_unbarred 53 = .ok (.iload 4, 2) := by decide +kernel
theorem dX1_unbarred_55 : decode cX1_unbarred 55 = .ok (.ireturn, 1) := by decide +kernel
theorem dX1_isSafe_0 : decode cX1_isSafe 0 = .ok (.aload_n 0, 1) := by decide +kernel
theorem dX1_isSafe_1 : decode cX1_isSafe 1 = .ok (.getfield 12, 3) := by decide +kernel
theorem dX1_isSafe_4 : decode cX1_isSafe 4 = .ok (.iload_n 1, 1) := by decide +kernel
theorem dX1_isSafe_5 : decode cX1_isSafe 5 = .ok (.invokevirtual 138, 3) := by decide +kernel
theorem dX1_isSafe_8 : decode cX1_isSafe 8 = .ok (.ifCond .eq 35, 3) := by decide +kernel
theorem dX1_isSafe_11 : decode cX1_isSafe 11 = .ok (.aload_n 0, 1) := by decide +kernel
theorem dX1_isSafe_12 : decode cX1_isSafe 12 = .ok (.getfield 12, 3) := by decide +kernel
theorem dX1_isSafe_15 : decode cX1_isSafe 15 = .ok (.iload_n 1, 1) := by decide +kernel
theorem dX1_isSafe_16 : decode cX1_isSafe 16 = .ok (.invokevirtual 145, 3) := by decide +kernel
theorem dX1_isSafe_19 : decode cX1_isSafe 19 = .ok (.aload_n 0, 1) := by decide +kernel
theorem dX1_isSafe_20 : decode cX1_isSafe 20 = .ok (.aload_n 0, 1) := by decide +kernel
theorem dX1_isSafe_21 : decode cX1_isSafe 21 = .ok (.invokevirtual 125, 3) := by decide +kernel
theorem dX1_isSafe_24 : decode cX1_isSafe 24 = .ok (.aload_n 0, 1) := by decide +kernel
theorem dX1_isSafe_25 : decode cX1_isSafe 25 = .ok (.getfield 12, 3) := by decide +kernel
theorem dX1_isSafe_28 : decode cX1_isSafe 28 = .ok (.iload_n 1, 1) := by decide +kernel
theorem dX1_isSafe_29 : decode cX1_isSafe 29 = .ok (.invokevirtual 141, 3) := by decide +kernel
theorem dX1_isSafe_32 : decode cX1_isSafe 32 = .ok (.iload_n 2, 1) := by decide +kernel
theorem dX1_isSafe_33 : decode cX1_isSafe 33 = .ok (.invokevirtual 155, 3) := by decide +kernel
theorem dX1_isSafe_36 : decode cX1_isSafe 36 = .ok (.if_icmp .lt 7, 3) := by decide +kernel
theorem dX1_isSafe_39 : decode cX1_isSafe 39 = .ok (.iconst 1, 1) := by decide +kernel
theorem dX1_isSafe_40 : decode cX1_isSafe 40 = .ok (.goto 4, 3) := by decide +kernel
theorem dX1_isSafe_43 : decode cX1_isSafe 43 = .ok (.iconst 0, 1) := by decide +kernel
theorem dX1_isSafe_44 : decode cX1_isSafe 44 = .ok (.ireturn, 1) := by decide +kernel
theorem dX1_safePerches_0 : decode cX1_safePerches 0 = .ok (.iconst 0, 1) := by decide +kernel
theorem dX1_safePerches_1 : decode cX1_safePerches 1 = .ok (.istore_n 2, 1) := by decide +kernel
theorem dX1_safePerches_2 : decode cX1_safePerches 2 = .ok (.iconst 0, 1) := by decide +kernel
theorem dX1_safePerches_3 : decode cX1_safePerches 3 = .ok (.istore_n 3, 1) := by decide +kernel
theorem dX1_safePerches_4 : decode cX1_safePerches 4 = .ok (.iload_n 3, 1) := by decide +kernel
theorem dX1_safePerches_5 : decode cX1_safePerches 5 = .ok (.bipush 6, 2) := by decide +kernel
theorem dX1_safePerches_7 : decode cX1_safePerches 7 = .ok (.if_icmp .ge 76, 3) := by decide +kernel
theorem dX1_safePerches_10 : decode cX1_safePerches 10 = .ok (.aload_n 0, 1) := by decide +kernel
theorem dX1_safePerches_11 : decode cX1_safePerches 11 = .ok (.aload_n 0, 1) := by decide +kernel
theorem dX1_safePerches_12 : decode cX1_safePerches 12 = .ok (.invokevirtual 125, 3) := by decide +kernel
theorem dX1_safePerches_15 : decode cX1_safePerches 15 = .ok (.iload_n 3, 1) := by decide +kernel
theorem dX1_safePerches_16 : decode cX1_safePerches 16 = .ok (.iload_n 1, 1) := by decide +kernel
theorem dX1_safePerches_17 : decode cX1_safePerches 17 = .ok (.invokevirtual 155, 3) := by decide +kernel
theorem dX1_safePerches_20 : decode cX1_safePerches 20 = .ok (.istore 4, 2) := by decide +kernel
theorem dX1_safePerches_22 : decode cX1_safePerches 22 = .ok (.iconst 0, 1) := by decide +kernel
theorem dX1_safePerches_23 : decode cX1_safePerches 23 = .ok (.istore 5, 2) := by decide +kernel
theorem dX1_safePerches_25 : decode cX1_safePerches 25 = .ok (.iload 5, 2) := by decide +kernel
theorem dX1_safePerches_27 : decode cX1_safePerches 27 = .ok (.aload_n 0, 1) := by decide +kernel
theorem dX1_safePerches_28 : decode cX1_safePerches 28 = .ok (.getfield 12, 3) := by decide +kernel
theorem dX1_safePerches_31 : decode cX1_safePerches 31 = .ok (.getfield 148, 3) := by decide +kernel
theorem dX1_safePerches_34 : decode cX1_safePerches 34 = .ok (.if_icmp .ge 43, 3) := by decide +kernel
theorem dX1_safePerches_37 : decode cX1_safePerches 37 = .ok (.aload_n 0, 1) := by decide +kernel
theorem dX1_safePerches_38 : decode cX1_safePerches 38 = .ok (.getfield 12, 3) := by decide +kernel
theorem dX1_safePerches_41 : decode cX1_safePerches 41 = .ok (.iload 5, 2) := by decide +kernel
theorem dX1_safePerches_43 : decode cX1_safePerches 43 = .ok (.invokevirtual 141, 3) := by decide +kernel
theorem dX1_safePerches_46 : decode cX1_safePerches 46 = .ok (.iload_n 3, 1) := by decide +kernel
theorem dX1_safePerches_47 : decode cX1_safePerches 47 = .ok (.if_icmp .ne 24, 3) := by decide +kernel
theorem dX1_safePerches_50 : decode cX1_safePerches 50 = .ok (.aload_n 0, 1) := by decide +kernel
theorem dX1_safePerches_51 : decode cX1_safePerches 51 = .ok (.getfield 12, 3) := by decide +kernel
theorem dX1_safePerches_54 : decode cX1_safePerches 54 = .ok (.iload 5, 2) := by decide +kernel
theorem dX1_safePerches_56 : decode cX1_safePerches 56 = .ok (.invokevirtual 145, 3) := by decide +kernel
theorem dX1_safePerches_59 : decode cX1_safePerches 59 = .ok (.iload 4, 2) := by decide +kernel
theorem dX1_safePerches_61 : decode cX1_safePerches 61 = .ok (.if_icmp .lt 10, 3) := by decide +kernel
theorem dX1_safePerches_64 : decode cX1_safePerches 64 = .ok (.iload_n 2, 1) := by decide +kernel
theorem dX1_safePerches_65 : decode cX1_safePerches 65 = .ok (.iconst 1, 1) := by decide +kernel
theorem dX1_safePerches_66 : decode cX1_safePerches 66 = .ok (.iload 5, 2) := by decide +kernel
theorem dX1_safePerches_68 : decode cX1_safePerches 68 = .ok (.ishl, 1) := by decide +kernel
theorem dX1_safePerches_69 : decode cX1_safePerches 69 = .ok (.ior, 1) := by decide +kernel
theorem dX1_safePerches_70 : decode cX1_safePerches 70 = .ok (.istore_n 2, 1) := by decide +kernel
theorem dX1_safePerches_71 : decode cX1_safePerches 71 = .ok (.iinc 5 1, 3) := by decide +kernel
theorem dX1_safePerches_74 : decode cX1_safePerches 74 = .ok (.goto (-49), 3) := by decide +kernel
theorem dX1_safePerches_77 : decode cX1_safePerches 77 = .ok (.iinc 3 1, 3) := by decide +kernel
theorem dX1_safePerches_80 : decode cX1_safePerches 80 = .ok (.goto (-76), 3) := by decide +kernel
theorem dX1_safePerches_83 : decode cX1_safePerches 83 = .ok (.iload_n 2, 1) := by decide +kernel
theorem dX1_safePerches_84 : decode cX1_safePerches 84 = .ok (.ireturn, 1) := by decide +kernel
theorem dX1_leads_0 : decode cX1_leads 0 = .ok (.aload_n 0, 1) := by decide +kernel
theorem dX1_leads_1 : decode cX1_leads 1 = .ok (.getfield 12, 3) := by decide +kernel
theorem dX1_leads_4 : decode cX1_leads 4 = .ok (.iload_n 2, 1) := by decide +kernel
theorem dX1_leads_5 : decode cX1_leads 5 = .ok (.iload_n 3, 1) := by decide +kernel
theorem dX1_leads_6 : decode cX1_leads 6 = .ok (.invokevirtual 159, 3) := by decide +kernel
theorem dX1_leads_9 : decode cX1_leads 9 = .ok (.istore 4, 2) := by decide +kernel
theorem dX1_leads_11 : decode cX1_leads 11 = .ok (.iload 4, 2) := by decide +kernel
theorem dX1_leads_13 : decode cX1_leads 13 = .ok (.ifCond .eq 22, 3) := by decide +kernel
theorem dX1_leads_16 : decode cX1_leads 16 = .ok (.aload_n 0, 1) := by decide +kernel
theorem dX1_leads_17 : decode cX1_leads 17 = .ok (.iload_n 1, 1) := by decide +kernel
theorem dX1_leads_18 : decode cX1_leads 18 = .ok (.invokevirtual 135, 3) := by decide +kernel
theorem dX1_leads_21 : decode cX1_leads 21 = .ok (.ifCond .eq 14, 3) := by decide +kernel
theorem dX1_leads_24 : decode cX1_leads 24 = .ok (.iload 4, 2) := by decide +kernel
theorem dX1_leads_26 : decode cX1_leads 26 = .ok (.aload_n 0, 1) := by decide +kernel
theorem dX1_leads_27 : decode cX1_leads 27 = .ok (.getfield 22, 3) := by decide +kernel
theorem dX1_leads_30 : decode cX1_leads 30 = .ok (.iload_n 1, 1) := by decide +kernel
theorem dX1_leads_31 : decode cX1_leads 31 = .ok (.iaload, 1) := by decide +kernel
theorem dX1_leads_32 : decode cX1_leads 32 = .ok (.if_icmp .le 5, 3) := by decide +kernel
theorem dX1_leads_35 : decode cX1_leads 35 = .ok (.iconst 0, 1) := by decide +kernel
theorem dX1_leads_36 : decode cX1_leads 36 = .ok (.ireturn, 1) := by decide +kernel
theorem dX1_leads_37 : decode cX1_leads 37 = .ok (.aload_n 0, 1) := by decide +kernel
theorem dX1_leads_38 : decode cX1_leads 38 = .ok (.getfield 12, 3) := by decide +kernel
theorem dX1_leads_41 : decode cX1_leads 41 = .ok (.iload_n 2, 1) := by decide +kernel
theorem dX1_leads_42 : decode cX1_leads 42 = .ok (.invokevirtual 141, 3) := by decide +kernel
theorem dX1_leads_45 : decode cX1_leads 45 = .ok (.istore 5, 2) := by decide +kernel
theorem dX1_leads_47 : decode cX1_leads 47 = .ok (.aload_n 0, 1) := by decide +kernel
theorem dX1_leads_48 : decode cX1_leads 48 = .ok (.getfield 12, 3) := by decide +kernel
theorem dX1_leads_51 : decode cX1_leads 51 = .ok (.iload_n 3, 1) := by decide +kernel
theorem dX1_leads_52 : decode cX1_leads 52 = .ok (.invokevirtual 141, 3) := by decide +kernel
theorem dX1_leads_55 : decode cX1_leads 55 = .ok (.istore 6, 2) := by decide +kernel
theorem dX1_leads_57 : decode cX1_leads 57 = .ok (.iload 5, 2) := by decide +kernel
theorem dX1_leads_59 : decode cX1_leads 59 = .ok (.iload 6, 2) := by decide +kernel
theorem dX1_leads_61 : decode cX1_leads 61 = .ok (.if_icmp .eq 14, 3) := by decide +kernel
theorem dX1_leads_64 : decode cX1_leads 64 = .ok (.aload_n 0, 1) := by decide +kernel
theorem dX1_leads_65 : decode cX1_leads 65 = .ok (.iload 5, 2) := by decide +kernel
theorem dX1_leads_67 : decode cX1_leads 67 = .ok (.iload 6, 2) := by decide +kernel
theorem dX1_leads_69 : decode cX1_leads 69 = .ok (.invokevirtual 132, 3) := by decide +kernel
theorem dX1_leads_72 : decode cX1_leads 72 = .ok (.ifCond .eq 7, 3) := by decide +kernel
theorem dX1_leads_75 : decode cX1_leads 75 = .ok (.iconst 1, 1) := by decide +kernel
theorem dX1_leads_76 : decode cX1_leads 76 = .ok (.goto 4, 3) := by decide +kernel
theorem dX1_leads_79 : decode cX1_leads 79 = .ok (.iconst 0, 1) := by decide +kernel
theorem dX1_leads_80 : decode cX1_leads 80 = .ok (.ireturn, 1) := by decide +kernel
theorem dX1_mayStride_0 : decode cX1_mayStride 0 = .ok (.aload_n 0, 1) := by decide +kernel
theorem dX1_mayStride_1 : decode cX1_mayStride 1 = .ok (.iload_n 1, 1) := by decide +kernel
theorem dX1_mayStride_2 : decode cX1_mayStride 2 = .ok (.invokevirtual 135, 3) := by decide +kernel
theorem dX1_mayStride_5 : decode cX1_mayStride 5 = .ok (.ifCond .eq 37, 3) := by decide +kernel
theorem dX1_mayStride_8 : decode cX1_mayStride 8 = .ok (.aload_n 0, 1) := by decide +kernel
theorem dX1_mayStride_9 : decode cX1_mayStride 9 = .ok (.iload_n 1, 1) := by decide +kernel
theorem dX1_mayStride_10 : decode cX1_mayStride 10 = .ok (.aload_n 0, 1) := by decide +kernel
theorem dX1_mayStride_11 : decode cX1_mayStride 11 = .ok (.getfield 25, 3) := by decide +kernel
theorem dX1_mayStride_14 : decode cX1_mayStride 14 = .ok (.iload_n 1, 1) := by decide +kernel
theorem dX1_mayStride_15 : decode cX1_mayStride 15 = .ok (.iaload, 1) := by decide +kernel
theorem dX1_mayStride_16 : decode cX1_mayStride 16 = .ok (.iload_n 2, 1) := by decide +kernel
theorem dX1_mayStride_17 : decode cX1_mayStride 17 = .ok (.invokevirtual 163, 3) := by decide +kernel
theorem dX1_mayStride_20 : decode cX1_mayStride 20 = .ok (.ifCond .eq 22, 3) := by decide +kernel
theorem dX1_mayStride_23 : decode cX1_mayStride 23 = .ok (.aload_n 0, 1) := by decide +kernel
theorem dX1_mayStride_24 : decode cX1_mayStride 24 = .ok (.iload_n 1, 1) := by decide +kernel
theorem dX1_mayStride_25 : decode cX1_mayStride 25 = .ok (.iload_n 2, 1) := by decide +kernel
theorem dX1_mayStride_26 : decode cX1_mayStride 26 = .ok (.aload_n 0, 1) := by decide +kernel
theorem dX1_mayStride_27 : decode cX1_mayStride 27 = .ok (.getfield 46, 3) := by decide +kernel
theorem dX1_mayStride_30 : decode cX1_mayStride 30 = .ok (.iconst 0, 1) := by decide +kernel
theorem dX1_mayStride_31 : decode cX1_mayStride 31 = .ok (.iaload, 1) := by decide +kernel
theorem dX1_mayStride_32 : decode cX1_mayStride 32 = .ok (.invokevirtual 151, 3) := by decide +kernel
theorem dX1_mayStride_35 : decode cX1_mayStride 35 = .ok (.ifCond .ne 7, 3) := by decide +kernel
theorem dX1_mayStride_38 : decode cX1_mayStride 38 = .ok (.iconst 1, 1) := by decide +kernel
theorem dX1_mayStride_39 : decode cX1_mayStride 39 = .ok (.goto 4, 3) := by decide +kernel
theorem dX1_mayStride_42 : decode cX1_mayStride 42 = .ok (.iconst 0, 1) := by decide +kernel
theorem dX1_mayStride_43 : decode cX1_mayStride 43 = .ok (.ireturn, 1) := by decide +kernel
theorem dX1_passHour_0 : decode cX1_passHour 0 = .ok (.aload_n 0, 1) := by decide +kernel
theorem dX1_passHour_1 : decode cX1_passHour 1 = .ok (.getfield 46, 3) := by decide +kernel
theorem dX1_passHour_4 : decode cX1_passHour 4 = .ok (.iconst 0, 1) := by decide +kernel
theorem dX1_passHour_5 : decode cX1_passHour 5 = .ok (.iaload, 1) := by decide +kernel
theorem dX1_passHour_6 : decode cX1_passHour 6 = .ok (.istore_n 1, 1) := by decide +kernel
theorem dX1_passHour_7 : decode cX1_passHour 7 = .ok (.iconst 0, 1) := by decide +kernel
theorem dX1_passHour_8 : decode cX1_passHour 8 = .ok (.istore_n 2, 1) := by decide +kernel
theorem dX1_passHour_9 : decode cX1_passHour 9 = .ok (.iconst 0, 1) := by decide +kernel
theorem dX1_passHour_10 : decode cX1_passHour 10 = .ok (.istore_n 3, 1) := by decide +kernel
theorem dX1_passHour_11 : decode cX1_passHour 11 = .ok (.iload_n 3, 1) := by decide +kernel
theorem dX1_passHour_12 : decode cX1_passHour 12 = .ok (.aload_n 0, 1) := by decide +kernel
theorem dX1_passHour_13 : decode cX1_passHour 13 = .ok (.getfield 62, 3) := by decide +kernel
theorem dX1_passHour_16 : decode cX1_passHour 16 = .ok (.if_icmp .ge 68, 3) := by decide +kernel
theorem dX1_passHour_19 : decode cX1_passHour 19 = .ok (.iload_n 3, 1) := by decide +kernel
theorem dX1_passHour_20 : decode cX1_passHour 20 = .ok (.iconst 4, 1) := by decide +kernel
theorem dX1_passHour_21 : decode cX1_passHour 21 = .ok (.if_icmp .ge 63, 3) := by decide +kernel
theorem dX1_passHour_24 : decode cX1_passHour 24 = .ok (.aload_n 0, 1) := by decide +kernel
theorem dX1_passHour_25 : decode cX1_passHour 25 = .ok (.getfield 25, 3) := by decide +kernel
theorem dX1_passHour_28 : decode cX1_passHour 28 = .ok (.iload_n 3, 1) := by decide +kernel
theorem dX1_passHour_29 : decode cX1_passHour 29 = .ok (.iaload, 1) := by decide +kernel
theorem dX1_passHour_30 : decode cX1_passHour 30 = .ok (.istore 4, 2) := by decide +kernel
theorem dX1_passHour_32 : decode cX1_passHour 32 = .ok (.aload_n 0, 1) := by decide +kernel
theorem dX1_passHour_33 : decode cX1_passHour 33 = .ok (.getfield 12, 3) := by decide +kernel
theorem dX1_passHour_36 : decode cX1_passHour 36 = .ok (.iload 4, 2) := by decide +kernel
theorem dX1_passHour_38 : decode cX1_passHour 38 = .ok (.invokevirtual 141, 3) := by decide +kernel
theorem dX1_passHour_41 : decode cX1_passHour 41 = .ok (.istore 5, 2) := by decide +kernel
theorem dX1_passHour_43 : decode cX1_passHour 43 = .ok (.aload_n 0, 1) := by decide +kernel
theorem dX1_passHour_44 : decode cX1_passHour 44 = .ok (.iload 5, 2) := by decide +kernel
theorem dX1_passHour_46 : decode cX1_passHour 46 = .ok (.invokevirtual 166, 3) := by decide +kernel
theorem dX1_passHour_49 : decode cX1_passHour 49 = .ok (.ifCond .le 29, 3) := by decide +kernel
theorem dX1_passHour_52 : decode cX1_passHour 52 = .ok (.aload_n 0, 1) := by decide +kernel
theorem dX1_passHour_53 : decode cX1_passHour 53 = .ok (.getfield 12, 3) := by decide +kernel
theorem dX1_passHour_56 : decode cX1_passHour 56 = .ok (.iload 4, 2) := by decide +kernel
theorem dX1_passHour_58 : decode cX1_passHour 58 = .ok (.invokevirtual 145, 3) := by decide +kernel
theorem dX1_passHour_61 : decode cX1_passHour 61 = .ok (.aload_n 0, 1) := by decide +kernel
theorem dX1_passHour_62 : decode cX1_passHour 62 = .ok (.aload_n 0, 1) := by decide +kernel
theorem dX1_passHour_63 : decode cX1_passHour 63 = .ok (.invokevirtual 125, 3) := by decide +kernel
theorem dX1_passHour_66 : decode cX1_passHour 66 = .ok (.iload 5, 2) := by decide +kernel
theorem dX1_passHour_68 : decode cX1_passHour 68 = .ok (.iload_n 1, 1) := by decide +kernel
theorem dX1_passHour_69 : decode cX1_passHour 69 = .ok (.invokevirtual 155, 3) := by decide +kernel
theorem dX1_passHour_72 : decode cX1_passHour 72 = .ok (.if_icmp .ge 6, 3) := by decide +kernel
theorem dX1_passHour_75 : decode cX1_passHour 75 = .ok (.iinc 2 1, 3) := by decide +kernel
theorem dX1_passHour_78 : decode cX1_passHour 78 = .ok (.iinc 3 1, 3) := by decide +kernel
theorem dX1_passHour_81 : decode cX1_passHour 81 = .ok (.goto (-70), 3) := by decide +kernel
theorem dX1_passHour_84 : decode cX1_passHour 84 = .ok (.aload_n 0, 1) := by decide +kernel
theorem dX1_passHour_85 : decode cX1_passHour 85 = .ok (.aload_n 0, 1) := by decide +kernel
theorem dX1_passHour_86 : decode cX1_passHour 86 = .ok (.getfield 78, 3) := by decide +kernel
theorem dX1_passHour_89 : decode cX1_passHour 89 = .ok (.iload_n 2, 1) := by decide +kernel
theorem dX1_passHour_90 : decode cX1_passHour 90 = .ok (.iadd, 1) := by decide +kernel
theorem dX1_passHour_91 : decode cX1_passHour 91 = .ok (.sipush 999, 3) := by decide +kernel
theorem dX1_passHour_94 : decode cX1_passHour 94 = .ok (.invokestatic 169, 3) := by decide +kernel
theorem dX1_passHour_97 : decode cX1_passHour 97 = .ok (.putfield 78, 3) := by decide +kernel
theorem dX1_passHour_100 : decode cX1_passHour 100 = .ok (.iconst 0, 1) := by decide +kernel
theorem dX1_passHour_101 : decode cX1_passHour 101 = .ok (.istore_n 3, 1) := by decide +kernel
theorem dX1_passHour_102 : decode cX1_passHour 102 = .ok (.iload_n 3, 1) := by decide +kernel
theorem dX1_passHour_103 : decode cX1_passHour 103 = .ok (.aload_n 0, 1) := by decide +kernel
theorem dX1_passHour_104 : decode cX1_passHour 104 = .ok (.getfield 66, 3) := by decide +kernel
theorem dX1_passHour_107 : decode cX1_passHour 107 = .ok (.if_icmp .ge 32, 3) := by decide +kernel
theorem dX1_passHour_110 : decode cX1_passHour 110 = .ok (.iload_n 3, 1) := by decide +kernel
theorem dX1_passHour_111 : decode cX1_passHour 111 = .ok (.iconst 3, 1) := by decide +kernel
theorem dX1_passHour_112 : decode cX1_passHour 112 = .ok (.if_icmp .ge 27, 3) := by decide +kernel
theorem dX1_passHour_115 : decode cX1_passHour 115 = .ok (.aload_n 0, 1) := by decide +kernel
theorem dX1_passHour_116 : decode cX1_passHour 116 = .ok (.getfield 28, 3) := by decide +kernel
theorem dX1_passHour_119 : decode cX1_passHour 119 = .ok (.iload_n 3, 1) := by decide +kernel
theorem dX1_passHour_120 : decode cX1_passHour 120 = .ok (.aload_n 0, 1) := by decide +kernel
theorem dX1_passHour_121 : decode cX1_passHour 121 = .ok (.iload_n 3, 1) := by decide +kernel
theorem dX1_passHour_122 : decode cX1_passHour 122 = .ok (.aload_n 0, 1) := by decide +kernel
theorem dX1_passHour_123 : decode cX1_passHour 123 = .ok (.getfield 28, 3) := by decide +kernel
theorem dX1_passHour_126 : decode cX1_passHour 126 = .ok (.iload_n 3, 1) := by decide +kernel
theorem dX1_passHour_127 : decode cX1_passHour 127 = .ok (.iaload, 1) := by decide +kernel
theorem dX1_passHour_128 : decode cX1_passHour 128 = .ok (.iload_n 1, 1) := by decide +kernel
theorem dX1_passHour_129 : decode cX1_passHour 129 = .ok (.invokevirtual 171, 3) := by decide +kernel
theorem dX1_passHour_132 : decode cX1_passHour 132 = .ok (.iastore, 1) := by decide +kernel
theorem dX1_passHour_133 : decode cX1_passHour 133 = .ok (.iinc 3 1, 3) := by decide +kernel
theorem dX1_passHour_136 : decode cX1_passHour 136 = .ok (.goto (-34), 3) := by decide +kernel
theorem dX1_passHour_139 : decode cX1_passHour 139 = .ok (.aload_n 0, 1) := by decide +kernel
theorem dX1_passHour_140 : decode cX1_passHour 140 = .ok (.getfield 46, 3) := by decide +kernel
theorem dX1_passHour_143 : decode cX1_passHour 143 = .ok (.iconst 0, 1) := by decide +kernel
theorem dX1_passHour_144 : decode cX1_passHour 144 = .ok (.iload_n 1, 1) := by decide +kernel
theorem dX1_passHour_145 : decode cX1_passHour 145 = .ok (.iconst 1, 1) := by decide +kernel
theorem dX1_passHour_146 : decode cX1_passHour 146 = .ok (.iadd, 1) := by decide +kernel
theorem dX1_passHour_147 : decode cX1_passHour 147 = .ok (.iastore, 1) := by decide +kernel
theorem dX1_passHour_148 : decode cX1_passHour 148 = .ok (.iload_n 2, 1) := by decide +kernel
theorem dX1_passHour_149 : decode cX1_passHour 149 = .ok (.ireturn, 1) := by decide +kernel
theorem dX1_lesserShare_0 : decode cX1_lesserShare 0 = .ok (.iconst 0, 1) := by decide +kernel
theorem dX1_lesserShare_1 : decode cX1_lesserShare 1 = .ok (.istore_n 2, 1) := by decide +kernel
theorem dX1_lesserShare_2 : decode cX1_lesserShare 2 = .ok (.iconst 0, 1) := by decide +kernel
theorem dX1_lesserShare_3 : decode cX1_lesserShare 3 = .ok (.istore_n 3, 1) := by decide +kernel
theorem dX1_lesserShare_4 : decode cX1_lesserShare 4 = .ok (.iconst 0, 1) := by decide +kernel
theorem dX1_lesserShare_5 : decode cX1_lesserShare 5 = .ok (.istore 4, 2) := by decide +kernel
theorem dX1_lesserShare_7 : decode cX1_lesserShare 7 = .ok (.iload 4, 2) := by decide +kernel
theorem dX1_lesserShare_9 : decode cX1_lesserShare 9 = .ok (.aload_n 0, 1) := by decide +kernel
theorem dX1_lesserShare_10 : decode cX1_lesserShare 10 = .ok (.getfield 69, 3) := by decide +kernel
theorem dX1_lesserShare_13 : decode cX1_lesserShare 13 = .ok (.if_icmp .ge 48, 3) := by decide +kernel
theorem dX1_lesserShare_16 : decode cX1_lesserShare 16 = .ok (.iload 4, 2) := by decide +kernel
theorem dX1_lesserShare_18 : decode cX1_lesserShare 18 = .ok (.bipush 6, 2) := by decide +kernel
theorem dX1_lesserShare_20 : decode cX1_lesserShare 20 = .ok (.if_icmp .ge 41, 3) := by decide +kernel
theorem dX1_lesserShare_23 : decode cX1_lesserShare 23 = .ok (.iload_n 1, 1) := by decide +kernel
theorem dX1_lesserShare_24 : decode cX1_lesserShare 24 = .ok (.iload 4, 2) := by decide +kernel
theorem dX1_lesserShare_26 : decode cX1_lesserShare 26 = .ok (.invokestatic 96, 3) := by decide +kernel
theorem dX1_lesserShare_29 : decode cX1_lesserShare 29 = .ok (.ifCond .eq 16, 3) := by decide +kernel
theorem dX1_lesserShare_32 : decode cX1_lesserShare 32 = .ok (.iload_n 2, 1) := by decide +kernel
theorem dX1_lesserShare_33 : decode cX1_lesserShare 33 = .ok (.aload_n 0, 1) := by decide +kernel
theorem dX1_lesserShare_34 : decode cX1_lesserShare 34 = .ok (.getfield 34, 3) := by decide +kernel
theorem dX1_lesserShare_37 : decode cX1_lesserShare 37 = .ok (.iload 4, 2) := by decide +kernel
theorem dX1_lesserShare_39 : decode cX1_lesserShare 39 = .ok (.iaload, 1) := by decide +kernel
theorem dX1_lesserShare_40 : decode cX1_lesserShare 40 = .ok (.iadd, 1) := by decide +kernel
theorem dX1_lesserShare_41 : decode cX1_lesserShare 41 = .ok (.istore_n 2, 1) := by decide +kernel
theorem dX1_lesserShare_42 : decode cX1_lesserShare 42 = .ok (.goto 13, 3) := by decide +kernel
theorem dX1_lesserShare_45 : decode cX1_lesserShare 45 = .ok (.iload_n 3, 1) := by decide +kernel
theorem dX1_lesserShare_46 : decode cX1_lesserShare 46 = .ok (.aload_n 0, 1) := by decide +kernel
theorem dX1_lesserShare_47 : decode cX1_lesserShare 47 = .ok (.getfield 37, 3) := by decide +kernel
theorem dX1_lesserShare_50 : decode cX1_lesserShare 50 = .ok (.iload 4, 2) := by decide +kernel
theorem dX1_lesserShare_52 : decode cX1_lesserShare 52 = .ok (.iaload, 1) := by decide +kernel
theorem dX1_lesserShare_53 : decode cX1_lesserShare 53 = .ok (.iadd, 1) := by decide +kernel
theorem dX1_lesserShare_54 : decode cX1_lesserShare 54 = .ok (.istore_n 3, 1) := by decide +kernel
theorem dX1_lesserShare_55 : decode cX1_lesserShare 55 = .ok (.iinc 4 1, 3) := by decide +kernel
theorem dX1_lesserShare_58 : decode cX1_lesserShare 58 = .ok (.goto (-51), 3) := by decide +kernel
theorem dX1_lesserShare_61 : decode cX1_lesserShare 61 = .ok (.iload_n 2, 1) := by decide +kernel
theorem dX1_lesserShare_62 : decode cX1_lesserShare 62 = .ok (.iload_n 3, 1) := by decide +kernel
theorem dX1_lesserShare_63 : decode cX1_lesserShare 63 = .ok (.invokestatic 169, 3) := by decide +kernel
theorem dX1_lesserShare_66 : decode cX1_lesserShare 66 = .ok (.ireturn, 1) := by decide +kernel
theorem dX2_init_0 : decode cX2_init 0 = .ok (.aload_n 0, 1) := by decide +kernel
theorem dX2_init_1 : decode cX2_init 1 = .ok (.invokespecial 3, 3) := by decide +kernel
theorem dX2_init_4 : decode cX2_init 4 = .ok (.aload_n 0, 1) := by decide +kernel
theorem dX2_init_5 : decode cX2_init 5 = .ok (.bipush 48, 2) := by decide +kernel
theorem dX2_init_7 : decode cX2_init 7 = .ok (.newarray .int, 2) := by decide +kernel
theorem dX2_init_9 : decode cX2_init 9 = .ok (.putfield 9, 3) := by decide +kernel
theorem dX2_init_12 : decode cX2_init 12 = .ok (.aload_n 0, 1) := by decide +kernel
theorem dX2_init_13 : decode cX2_init 13 = .ok (.iconst 3, 1) := by decide +kernel
theorem dX2_init_14 : decode cX2_init 14 = .ok (.bipush 61, 2) := by decide +kernel
theorem dX2_init_16 : decode cX2_init 16 = .ok (.multianewarray 15 2, 4) := by decide +kernel
theorem dX2_init_20 : decode cX2_init 20 = .ok (.putfield 17, 3) := by decide +kernel
theorem dX2_init_23 : decode cX2_init 23 = .ok (.aload_n 0, 1) := by decide +kernel
theorem dX2_init_24 : decode cX2_init 24 = .ok (.bipush 10, 2) := by decide +kernel
theorem dX2_init_26 : decode cX2_init 26 = .ok (.newarray .int, 2) := by decide +kernel
theorem dX2_init_28 : decode cX2_init 28 = .ok (.putfield 20, 3) := by decide +kernel
theorem dX2_init_31 : decode cX2_init 31 = .ok (.aload_n 0, 1) := by decide +kernel
theorem dX2_init_32 : decode cX2_init 32 = .ok (.bipush 48, 2) := by decide +kernel
theorem dX2_init_34 : decode cX2_init 34 = .ok (.newarray .int, 2) := by decide +kernel
theorem dX2_init_36 : decode cX2_init 36 = .ok (.putfield 23, 3) := by decide +kernel
theorem dX2_init_39 : decode cX2_init 39 = .ok (.aload_n 0, 1) := by decide +kernel
theorem dX2_init_40 : decode cX2_init 40 = .ok (.bipush 49, 2) := by decide +kernel
theorem dX2_init_42 : decode cX2_init 42 = .ok (.newarray .int, 2) := by decide +kernel
theorem dX2_init_44 : decode cX2_init 44 = .ok (.putfield 26, 3) := by decide +kernel
theorem dX2_init_47 : decode cX2_init 47 = .ok (.aload_n 0, 1) := by decide +kernel
theorem dX2_init_48 : decode cX2_init 48 = .ok (.bipush 6, 2) := by decide +kernel
theorem dX2_init_50 : decode cX2_init 50 = .ok (.newarray .int, 2) := by decide +kernel
theorem dX2_init_52 : decode cX2_init 52 = .ok (.putfield 29, 3) := by decide +kernel
theorem dX2_init_55 : decode cX2_init 55 = .ok (.aload_n 0, 1) := by decide +kernel
theorem dX2_init_56 : decode cX2_init 56 = .ok (.bipush 20, 2) := by decide +kernel
theorem dX2_init_58 : decode cX2_init 58 = .ok (.newarray .long, 2) := by decide +kernel
theorem dX2_init_60 : decode cX2_init 60 = .ok (.putfield 32, 3) := by decide +kernel
theorem dX2_init_63 : decode cX2_init 63 = .ok (.return_, 1) := by decide +kernel
theorem dX2_drawSteps_0 : decode cX2_drawSteps 0 = .ok (.iconst 0, 1) := by decide +kernel
theorem dX2_drawSteps_1 : decode cX2_drawSteps 1 = .ok (.istore_n 3, 1) := by decide +kernel
theorem dX2_drawSteps_2 : decode cX2_drawSteps 2 = .ok (.iload_n 3, 1) := by decide +kernel
theorem dX2_drawSteps_3 : decode cX2_drawSteps 3 = .ok (.bipush 10, 2) := by decide +kernel
theorem dX2_drawSteps_5 : decode cX2_drawSteps 5 = .ok (.if_icmp .ge 56, 3) := by decide +kernel
theorem dX2_drawSteps_8 : decode cX2_drawSteps 8 = .ok (.aload_n 0, 1) := by decide +kernel
theorem dX2_drawSteps_9 : decode cX2_drawSteps 9 = .ok (.getfield 20, 3) := by decide +kernel
theorem dX2_drawSteps_12 : decode cX2_drawSteps 12 = .ok (.iload_n 3, 1) := by decide +kernel
theorem dX2_drawSteps_13 : decode cX2_drawSteps 13 = .ok (.iconst 0, 1) := by decide +kernel
theorem dX2_drawSteps_14 : decode cX2_drawSteps 14 = .ok (.iastore, 1) := by decide +kernel
theorem dX2_drawSteps_15 : decode cX2_drawSteps 15 = .ok (.iconst 0, 1) := by decide +kernel
theorem dX2_drawSteps_16 : decode cX2_drawSteps 16 = .ok (.istore 4, 2) := by decide +kernel
theorem dX2_drawSteps_18 : decode cX2_drawSteps 18 = .ok (.iload 4, 2) := by decide +kernel
theorem dX2_drawSteps_20 : decode cX2_drawSteps 20 = .ok (.bipush 10, 2) := by decide +kernel
theorem dX2_drawSteps_22 : decode cX2_drawSteps 22 = .ok (.if_icmp .ge 33, 3) := by decide +kernel
theorem dX2_drawSteps_25 : decode cX2_drawSteps 25 = .ok (.aload_n 1, 1) := by decide +kernel
theorem dX2_drawSteps_26 : decode cX2_drawSteps 26 = .ok (.iload_n 2, 1) := by decide +kernel
theorem dX2_drawSteps_27 : decode cX2_drawSteps 27 = .ok (.iload_n 3, 1) := by decide +kernel
theorem dX2_drawSteps_28 : decode cX2_drawSteps 28 = .ok (.iload 4, 2) := by decide +kernel
theorem dX2_drawSteps_30 : decode cX2_drawSteps 30 = .ok (.invokevirtual 36, 3) := by decide +kernel
theorem dX2_drawSteps_33 : decode cX2_drawSteps 33 = .ok (.ifCond .eq 16, 3) := by decide +kernel
theorem dX2_drawSteps_36 : decode cX2_drawSteps 36 = .ok (.aload_n 0, 1) := by decide +kernel
theorem dX2_drawSteps_37 : decode cX2_drawSteps 37 = .ok (.getfield 20, 3) := by decide +kernel
theorem dX2_drawSteps_40 : decode cX2_drawSteps 40 = .ok (.iload_n 3, 1) := by decide +kernel
theorem dX2_drawSteps_41 : decode cX2_drawSteps 41 = .ok (.dup2, 1) := by decide +kernel
theorem dX2_drawSteps_42 : decode cX2_drawSteps 42 = .ok (.iaload, 1) := by decide +kernel
theorem dX2_drawSteps_43 : decode cX2_drawSteps 43 = .ok (.iconst 1, 1) := by decide +kernel
theorem dX2_drawSteps_44 : decode cX2_drawSteps 44 = .ok (.iload 4, 2) := by decide +kernel
theorem dX2_drawSteps_46 : decode cX2_drawSteps 46 = .ok (.ishl, 1) := by decide +kernel
theorem dX2_drawSteps_47 : decode cX2_drawSteps 47 = .ok (.ior, 1) := by decide +kernel
theorem dX2_drawSteps_48 : decode cX2_drawSteps 48 = .ok (.iastore, 1) := by decide +kernel
theorem dX2_drawSteps_49 : decode cX2_drawSteps 49 = .ok (.iinc 4 1, 3) := by decide +kernel
theorem dX2_drawSteps_52 : decode cX2_drawSteps 52 = .ok (.goto (-34), 3) := by decide +kernel
theorem dX2_drawSteps_55 : decode cX2_drawSteps 55 = .ok (.iinc 3 1, 3) := by decide +kernel
theorem dX2_drawSteps_58 : decode cX2_drawSteps 58 = .ok (.goto (-56), 3) := by decide +kernel
theorem dX2_drawSteps_61 : decode cX2_drawSteps 61 = .ok (.return_, 1) := by decide +kernel
theorem dX2_onward_0 : decode cX2_onward 0 = .ok (.iconst 0, 1) := by decide +kernel
theorem dX2_onward_1 : decode cX2_onward 1 = .ok (.istore_n 2, 1) := by decide +kernel
theorem dX2_onward_2 : decode cX2_onward 2 = .ok (.iconst 0, 1) := by decide +kernel
theorem dX2_onward_3 : decode cX2_onward 3 = .ok (.istore_n 3, 1) := by decide +kernel
theorem dX2_onward_4 : decode cX2_onward 4 = .ok (.iload_n 3, 1) := by decide +kernel
theorem dX2_onward_5 : decode cX2_onward 5 = .ok (.bipush 10, 2) := by decide +kernel
theorem dX2_onward_7 : decode cX2_onward 7 = .ok (.if_icmp .ge 26, 3) := by decide +kernel
theorem dX2_onward_10 : decode cX2_onward 10 = .ok (.iload_n 1, 1) := by decide +kernel
theorem dX2_onward_11 : decode cX2_onward 11 = .ok (.iload_n 3, 1) := by decide +kernel
theorem dX2_onward_12 : decode cX2_onward 12 = .ok (.invokestatic 42, 3) := by decide +kernel
theorem dX2_onward_15 : decode cX2_onward 15 = .ok (.ifCond .eq 12, 3) := by decide +kernel
theorem dX2_onward_18 : decode cX2_onward 18 = .ok (.iload_n 2, 1) := by decide +kernel
theorem dX2_onward_19 : decode cX2_onward 19 = .ok (.aload_n 0, 1) := by decide +kernel
theorem dX2_onward_20 : decode cX2_onward 20 = .ok (.getfield 20, 3) := by decide +kernel
theorem dX2_onward_23 : decode cX2_onward 23 = .ok (.iload_n 3, 1) := by decide +kernel
theorem dX2_onward_24 : decode cX2_onward 24 = .ok (.iaload, 1) := by decide +kernel
theorem dX2_onward_25 : decode cX2_onward 25 = .ok (.ior, 1) := by decide +kernel
theorem dX2_onward_26 : decode cX2_onward 26 = .ok (.istore_n 2, 1) := by decide +kernel
theorem dX2_onward_27 : decode cX2_onward 27 = .ok (.iinc 3 1, 3) := by decide +kernel
theorem dX2_onward_30 : decode cX2_onward 30 = .ok (.goto (-26), 3) := by decide +kernel
theorem dX2_onward_33 : decode cX2_onward 33 = .ok (.iload_n 2, 1) := by decide +kernel
theorem dX2_onward_34 : decode cX2_onward 34 = .ok (.ireturn, 1) := by decide +kernel
theorem dX2_reached_0 : decode cX2_reached 0 = .ok (.iload_n 1, 1) := by decide +kernel
theorem dX2_reached_1 : decode cX2_reached 1 = .ok (.istore 4, 2) := by decide +kernel
theorem dX2_reached_3 : decode cX2_reached 3 = .ok (.iconst 0, 1) := by decide +kernel
theorem dX2_reached_4 : decode cX2_reached 4 = .ok (.istore 5, 2) := by decide +kernel
theorem dX2_reached_6 : decode cX2_reached 6 = .ok (.iload 5, 2) := by decide +kernel
theorem dX2_reached_8 : decode cX2_reached 8 = .ok (.iload_n 2, 1) := by decide +kernel
theorem dX2_reached_9 : decode cX2_reached 9 = .ok (.if_icmp .ge 36, 3) := by decide +kernel
theorem dX2_reached_12 : decode cX2_reached 12 = .ok (.iload 4, 2) := by decide +kernel
theorem dX2_reached_14 : decode cX2_reached 14 = .ok (.aload_n 0, 1) := by decide +kernel
theorem dX2_reached_15 : decode cX2_reached 15 = .ok (.iload 4, 2) := by decide +kernel
theorem dX2_reached_17 : decode cX2_reached 17 = .ok (.invokevirtual 46, 3) := by decide +kernel
theorem dX2_reached_20 : decode cX2_reached 20 = .ok (.iload_n 3, 1) := by decide +kernel
theorem dX2_reached_21 : decode cX2_reached 21 = .ok (.iand, 1) := by decide +kernel
theorem dX2_reached_22 : decode cX2_reached 22 = .ok (.ior, 1) := by decide +kernel
theorem dX2_reached_23 : decode cX2_reached 23 = .ok (.istore 6, 2) := by decide +kernel
theorem dX2_reached_25 : decode cX2_reached 25 = .ok (.iload 6, 2) := by decide +kernel
theorem dX2_reached_27 : decode cX2_reached 27 = .ok (.iload 4, 2) := by decide +kernel
theorem dX2_reached_29 : decode cX2_reached 29 = .ok (.if_icmp .ne 6, 3) := by decide +kernel
theorem dX2_reached_32 : decode cX2_reached 32 = .ok (.goto 13, 3) := by decide +kernel
theorem dX2_reached_35 : decode cX2_reached 35 = .ok (.iload 6, 2) := by decide +kernel
theorem dX2_reached_37 : decode cX2_reached 37 = .ok (.istore 4, 2) := by decide +kernel
theorem dX2_reached_39 : decode cX2_reached 39 = .ok (.iinc 5 1, 3) := by decide +kernel
theorem dX2_reached_42 : decode cX2_reached 42 = .ok (.goto (-36), 3) := by decide +kernel
theorem dX2_reached_45 : decode cX2_reached 45 = .ok (.iload 4, 2) := by decide +kernel
theorem dX2_reached_47 : decode cX2_reached 47 = .ok (.ireturn, 1) := by decide +kernel
theorem dX2_hoursTo_0 : decode cX2_hoursTo 0 = .ok (.aload_n 1, 1) := by decide +kernel
theorem dX2_hoursTo_1 : decode cX2_hoursTo 1 = .ok (.getfield 50, 3) := by decide +kernel
theorem dX2_hoursTo_4 : decode cX2_hoursTo 4 = .ok (.iload_n 2, 1) := by decide +kernel
theorem dX2_hoursTo_5 : decode cX2_hoursTo 5 = .ok (.iaload, 1) := by decide +kernel
theorem dX2_hoursTo_6 : decode cX2_hoursTo 6 = .ok (.istore 4, 2) := by decide +kernel
theorem dX2_hoursTo_8 : decode cX2_hoursTo 8 = .ok (.iload 4, 2) := by decide +kernel
theorem dX2_hoursTo_10 : decode cX2_hoursTo 10 = .ok (.iload_n 3, 1) := by decide +kernel
theorem dX2_hoursTo_11 : decode cX2_hoursTo 11 = .ok (.if_icmp .ne 5, 3) := by decide +kernel
theorem dX2_hoursTo_14 : decode cX2_hoursTo 14 = .ok (.iconst 0, 1) := by decide +kernel
theorem dX2_hoursTo_15 : decode cX2_hoursTo 15 = .ok (.ireturn, 1) := by decide +kernel
theorem dX2_hoursTo_16 : decode cX2_hoursTo 16 = .ok (.aload_n 0, 1) := by decide +kernel
theorem dX2_hoursTo_17 : decode cX2_hoursTo 17 = .ok (.aload_n 1, 1) := by decide +kernel
theorem dX2_hoursTo_18 : decode cX2_hoursTo 18 = .ok (.iload_n 2, 1) := by decide +kernel
theorem dX2_hoursTo_19 : decode cX2_hoursTo 19 = .ok (.invokevirtual 53, 3) := by decide +kernel
theorem dX2_hoursTo_22 : decode cX2_hoursTo 22 = .ok (.aload_n 1, 1) := by decide +kernel
theorem dX2_hoursTo_23 : decode cX2_hoursTo 23 = .ok (.getfield 57, 3) := by decide +kernel
theorem dX2_hoursTo_26 : decode cX2_hoursTo 26 = .ok (.iconst 0, 1) := by decide +kernel
theorem dX2_hoursTo_27 : decode cX2_hoursTo 27 = .ok (.iaload, 1) := by decide +kernel
theorem dX2_hoursTo_28 : decode cX2_hoursTo 28 = .ok (.istore 5, 2) := by decide +kernel
theorem dX2_hoursTo_30 : decode cX2_hoursTo 30 = .ok (.aload_n 0, 1) := by decide +kernel
theorem dX2_hoursTo_31 : decode cX2_hoursTo 31 = .ok (.getfield 26, 3) := by decide +kernel
theorem dX2_hoursTo_34 : decode cX2_hoursTo 34 = .ok (.iconst 0, 1) := by decide +kernel
theorem dX2_hoursTo_35 : decode cX2_hoursTo 35 = .ok (.iconst 1, 1) := by decide +kernel
theorem dX2_hoursTo_36 : decode cX2_hoursTo 36 = .ok (.iload 4, 2) := by decide +kernel
theorem dX2_hoursTo_38 : decode cX2_hoursTo 38 = .ok (.ishl, 1) := by decide +kernel
theorem dX2_hoursTo_39 : decode cX2_hoursTo 39 = .ok (.iastore, 1) := by decide +kernel
theorem dX2_hoursTo_40 : decode cX2_hoursTo 40 = .ok (.iconst 0, 1) := by decide +kernel
theorem dX2_hoursTo_41 : decode cX2_hoursTo 41 = .ok (.istore 6, 2) := by decide +kernel
theorem dX2_hoursTo_43 : decode cX2_hoursTo 43 = .ok (.iload 6, 2) := by decide +kernel
theorem dX2_hoursTo_45 : decode cX2_hoursTo 45 = .ok (.bipush 48, 2) := by decide +kernel
theorem dX2_hoursTo_47 : decode cX2_hoursTo 47 = .ok (.if_icmp .ge 130, 3) := by decide +kernel
theorem dX2_hoursTo_50 : decode cX2_hoursTo 50 = .ok (.aload_n 0, 1) := by decide +kernel
theorem dX2_hoursTo_51 : decode cX2_hoursTo 51 = .ok (.getfield 26, 3) := by decide +kernel
theorem dX2_hoursTo_54 : decode cX2_hoursTo 54 = .ok (.iload 6, 2) := by decide +kernel
theorem dX2_hoursTo_56 : decode cX2_hoursTo 56 = .ok (.iaload, 1) := by decide +kernel
theorem dX2_hoursTo_57 : decode cX2_hoursTo 57 = .ok (.ifCond .eq 120, 3) := by decide +kernel
theorem dX2_hoursTo_60 : decode cX2_hoursTo 60 = .ok (.aload_n 0, 1) := by decide +kernel
theorem dX2_hoursTo_61 : decode cX2_hoursTo 61 = .ok (.aload_n 0, 1) := by decide +kernel
theorem dX2_hoursTo_62 : decode cX2_hoursTo 62 = .ok (.getfield 26, 3) := by decide +kernel
theorem dX2_hoursTo_65 : decode cX2_hoursTo 65 = .ok (.iload 6, 2) := by decide +kernel
theorem dX2_hoursTo_67 : decode cX2_hoursTo 67 = .ok (.iaload, 1) := by decide +kernel
theorem dX2_hoursTo_68 : decode cX2_hoursTo 68 = .ok (.invokevirtual 46, 3) := by decide +kernel
theorem dX2_hoursTo_71 : decode cX2_hoursTo 71 = .ok (.istore 7, 2) := by decide +kernel
theorem dX2_hoursTo_73 : decode cX2_hoursTo 73 = .ok (.aload_n 0, 1) := by decide +kernel
theorem dX2_hoursTo_74 : decode cX2_hoursTo 74 = .ok (.getfield 23, 3) := by decide +kernel
theorem dX2_hoursTo_77 : decode cX2_hoursTo 77 = .ok (.iload 6, 2) := by decide +kernel
theorem dX2_hoursTo_79 : decode cX2_hoursTo 79 = .ok (.aload_n 1, 1) := by decide +kernel
theorem dX2_hoursTo_80 : decode cX2_hoursTo 80 = .ok (.iload_n 2, 1) := by decide +kernel
theorem dX2_hoursTo_81 : decode cX2_hoursTo 81 = .ok (.iload 7, 2) := by decide +kernel
theorem dX2_hoursTo_83 : decode cX2_hoursTo 83 = .ok (.iload 5, 2) := by decide +kernel
theorem dX2_hoursTo_85 : decode cX2_hoursTo 85 = .ok (.iload 6, 2) := by decide +kernel
theorem dX2_hoursTo_87 : decode cX2_hoursTo 87 = .ok (.iadd, 1) := by decide +kernel
theorem dX2_hoursTo_88 : decode cX2_hoursTo 88 = .ok (.invokevirtual 60, 3) := by decide +kernel
theorem dX2_hoursTo_91 : decode cX2_hoursTo 91 = .ok (.iastore, 1) := by decide +kernel
theorem dX2_hoursTo_92 : decode cX2_hoursTo 92 = .ok (.aload_n 0, 1) := by decide +kernel
theorem dX2_hoursTo_93 : decode cX2_hoursTo 93 = .ok (.getfield 26, 3) := by decide +kernel
theorem dX2_hoursTo_96 : decode cX2_hoursTo 96 = .ok (.iload 6, 2) := by decide +kernel
theorem dX2_hoursTo_98 : decode cX2_hoursTo 98 = .ok (.iconst 1, 1) := by decide +kernel
theorem dX2_hoursTo_99 : decode cX2_hoursTo 99 = .ok (.iadd, 1) := by decide +kernel
theorem dX2_hoursTo_100 : decode cX2_hoursTo 100 = .ok (.aload_n 0, 1) := by decide +kernel
theorem dX2_hoursTo_101 : decode cX2_hoursTo 101 = .ok (.getfield 26, 3) := by decide +kernel
theorem dX2_hoursTo_104 : decode cX2_hoursTo 104 = .ok (.iload 6, 2) := by decide +kernel
theorem dX2_hoursTo_106 : decode cX2_hoursTo 106 = .ok (.iaload, 1) := by decide +kernel
theorem dX2_hoursTo_107 : decode cX2_hoursTo 107 = .ok (.iload 7, 2) := by decide +kernel
theorem dX2_hoursTo_109 : decode cX2_hoursTo 109 = .ok (.aload_n 0, 1) := by decide +kernel
theorem dX2_hoursTo_110 : decode cX2_hoursTo 110 = .ok (.getfield 23, 3) := by decide +kernel
theorem dX2_hoursTo_113 : decode cX2_hoursTo 113 = .ok (.iload 6, 2) := by decide +kernel
theorem dX2_hoursTo_115 : decode cX2_hoursTo 115 = .ok (.iaload, 1) := by decide +kernel
theorem dX2_hoursTo_116 : decode cX2_hoursTo 116 = .ok (.iand, 1) := by decide +kernel
theorem dX2_hoursTo_117 : decode cX2_hoursTo 117 = .ok (.ior, 1) := by decide +kernel
theorem dX2_hoursTo_118 : decode cX2_hoursTo 118 = .ok (.aload_n 1, 1) := by decide +kernel
theorem dX2_hoursTo_119 : decode cX2_hoursTo 119 = .ok (.iload 5, 2) := by decide +kernel
theorem dX2_hoursTo_121 : decode cX2_hoursTo 121 = .ok (.iload 6, 2) := by decide +kernel
theorem dX2_hoursTo_123 : decode cX2_hoursTo 123 = .ok (.iadd, 1) := by decide +kernel
theorem dX2_hoursTo_124 : decode cX2_hoursTo 124 = .ok (.iconst 1, 1) := by decide +kernel
theorem dX2_hoursTo_125 : decode cX2_hoursTo 125 = .ok (.iadd, 1) := by decide +kernel
theorem dX2_hoursTo_126 : decode cX2_hoursTo 126 = .ok (.invokevirtual 64, 3) := by decide +kernel
theorem dX2_hoursTo_129 : decode cX2_hoursTo 129 = .ok (.iand, 1) := by decide +kernel
theorem dX2_hoursTo_130 : decode cX2_hoursTo 130 = .ok (.iastore, 1) := by decide +kernel
theorem dX2_hoursTo_131 : decode cX2_hoursTo 131 = .ok (.aload_n 0, 1) := by decide +kernel
theorem dX2_hoursTo_132 : decode cX2_hoursTo 132 = .ok (.getfield 26, 3) := by decide +kernel
theorem dX2_hoursTo_135 : decode cX2_hoursTo 135 = .ok (.iload 6, 2) := by decide +kernel
theorem dX2_hoursTo_137 : decode cX2_hoursTo 137 = .ok (.iconst 1, 1) := by decide +kernel
theorem dX2_hoursTo_138 : decode cX2_hoursTo 138 = .ok (.iadd, 1) := by decide +kernel
theorem dX2_hoursTo_139 : decode cX2_hoursTo 139 = .ok (.iaload, 1) := by decide +kernel
theorem dX2_hoursTo_140 : decode cX2_hoursTo 140 = .ok (.iload_n 3, 1) := by decide +kernel
theorem dX2_hoursTo_141 : decode cX2_hoursTo 141 = .ok (.invokestatic 42, 3) := by decide +kernel
theorem dX2_hoursTo_144 : decode cX2_hoursTo 144 = .ok (.ifCond .eq 27, 3) := by decide +kernel
theorem dX2_hoursTo_147 : decode cX2_hoursTo 147 = .ok (.aload_n 0, 1) := by decide +kernel
theorem dX2_hoursTo_148 : decode cX2_hoursTo 148 = .ok (.iload_n 3, 1) := by decide +kernel
theorem dX2_hoursTo_149 : decode cX2_hoursTo 149 = .ok (.iload 6, 2) := by decide +kernel
theorem dX2_hoursTo_151 : decode cX2_hoursTo 151 = .ok (.iconst 1, 1) := by decide +kernel
theorem dX2_hoursTo_152 : decode cX2_hoursTo 152 = .ok (.iadd, 1) := by decide +kernel
theorem dX2_hoursTo_153 : decode cX2_hoursTo 153 = .ok (.invokevirtual 67, 3) := by decide +kernel
theorem dX2_hoursTo_156 : decode cX2_hoursTo 156 = .ok (.aload_n 0, 1) := by decide +kernel
theorem dX2_hoursTo_157 : decode cX2_hoursTo 157 = .ok (.iload 4, 2) := by decide +kernel
theorem dX2_hoursTo_159 : decode cX2_hoursTo 159 = .ok (.iload 6, 2) := by decide +kernel
theorem dX2_hoursTo_161 : decode cX2_hoursTo 161 = .ok (.iconst 1, 1) := by decide +kernel
theorem dX2_hoursTo_162 : decode cX2_hoursTo 162 = .ok (.iadd, 1) := by decide +kernel
theorem dX2_hoursTo_163 : decode cX2_hoursTo 163 = .ok (.invokevirtual 71, 3) := by decide +kernel
theorem dX2_hoursTo_166 : decode cX2_hoursTo 166 = .ok (.iload 6, 2) := by decide +kernel
theorem dX2_hoursTo_168 : decode cX2_hoursTo 168 = .ok (.iconst 1, 1) := by decide +kernel
theorem dX2_hoursTo_169 : decode cX2_hoursTo 169 = .ok (.iadd, 1) := by decide +kernel
theorem dX2_hoursTo_170 : decode cX2_hoursTo 170 = .ok (.ireturn, 1) := by decide +kernel
theorem dX2_hoursTo_171 : decode cX2_hoursTo 171 = .ok (.iinc 6 1, 3) := by decide +kernel
theorem dX2_hoursTo_174 : decode cX2_hoursTo 174 = .ok (.goto (-131), 3) := by decide +kernel
theorem dX2_hoursTo_177 : decode cX2_hoursTo 177 = .ok (.iconst (-1), 1) := by decide +kernel
theorem dX2_hoursTo_178 : decode cX2_hoursTo 178 = .ok (.ireturn, 1) := by decide +kernel
theorem dX2_keepThoseThatComeTo_0 : decode cX2_keepThoseThatComeTo 0 = .ok (.aload_n 0, 1) := by decide +kernel
theorem dX2_keepThoseThatComeTo_1 : decode cX2_keepThoseThatComeTo 1 = .ok (.getfield 26, 3) := by decide +kernel
theorem dX2_keepThoseThatComeTo_4 : decode cX2_keepThoseThatComeTo 4 = .ok (.iload_n 2, 1) := by decide +kernel
theorem dX2_keepThoseThatComeTo_5 : decode cX2_keepThoseThatComeTo 5 = .ok (.iconst 1, 1) := by decide +kernel
theorem dX2_keepThoseThatComeTo_6 : decode cX2_keepThoseThatComeTo 6 = .ok (.iload_n 1, 1) := by decide +kernel
theorem dX2_keepThoseThatComeTo_7 : decode cX2_keepThoseThatComeTo 7 = .ok (.ishl, 1) := by decide +kernel
theorem dX2_keepThoseThatComeTo_8 : decode cX2_keepThoseThatComeTo 8 = .ok (.iastore, 1) := by decide +kernel
theorem dX2_keepThoseThatComeTo_9 : decode cX2_keepThoseThatComeTo 9 = .ok (.iload_n 2, 1) := by decide +kernel
theorem dX2_keepThoseThatComeTo_10 : decode cX2_keepThoseThatComeTo 10 = .ok (.iconst 1, 1) := by decide +kernel
theorem dX2_keepThoseThatComeTo_11 : decode cX2_keepThoseThatComeTo 11 = .ok (.isub, 1) := by decide +kernel
theorem dX2_keepThoseThatComeTo_12 : decode cX2_keepThoseThatComeTo 12 = .ok (.istore_n 3, 1) := by decide +kernel
theorem dX2_keepThoseThatComeTo_13 : decode cX2_keepThoseThatComeTo 13 = .ok (.iload_n 3, 1) := by decide +kernel
theorem dX2_keepThoseThatComeTo_14 : decode cX2_keepThoseThatComeTo 14 = .ok (.ifCond .lt 90, 3) := by decide +kernel
theorem dX2_keepThoseThatComeTo_17 : decode cX2_keepThoseThatComeTo 17 = .ok (.iconst 0, 1) := by decide +kernel
theorem dX2_keepThoseThatComeTo_18 : decode cX2_keepThoseThatComeTo 18 = .ok (.istore 4, 2) := by decide +kernel
theorem dX2_keepThoseThatComeTo_20 : decode cX2_keepThoseThatComeTo 20 = .ok (.iconst 0, 1) := by decide +kernel
theorem dX2_keepThoseThatComeTo_21 : decode cX2_keepThoseThatComeTo 21 = .ok (.istore 5, 2) := by decide +kernel
theorem dX2_keepThoseThatComeTo_23 : decode cX2_keepThoseThatComeTo 23 = .ok (.iload 5, 2) := by decide +kernel
theorem dX2_keepThoseThatComeTo_25 : decode cX2_keepThoseThatComeTo 25 = .ok (.bipush 10, 2) := by decide +kernel
theorem dX2_keepThoseThatComeTo_27 : decode cX2_keepThoseThatComeTo 27 = .ok (.if_icmp .ge 63, 3) := by decide +kernel
theorem dX2_keepThoseThatComeTo_30 : decode cX2_keepThoseThatComeTo 30 = .ok (.aload_n 0, 1) := by decide +kernel
theorem dX2_keepThoseThatComeTo_31 : decode cX2_keepThoseThatComeTo 31 = .ok (.getfield 26, 3) := by decide +kernel
theorem dX2_keepThoseThatComeTo_34 : decode cX2_keepThoseThatComeTo 34 = .ok (.iload_n 3, 1) := by decide +kernel
theorem dX2_keepThoseThatComeTo_35 : decode cX2_keepThoseThatComeTo 35 = .ok (.iaload, 1) := by decide +kernel
theorem dX2_keepThoseThatComeTo_36 : decode cX2_keepThoseThatComeTo 36 = .ok (.iload 5, 2) := by decide +kernel
theorem dX2_keepThoseThatComeTo_38 : decode cX2_keepThoseThatComeTo 38 = .ok (.invokestatic 42, 3) := by decide +kernel
theorem dX2_keepThoseThatComeTo_41 : decode cX2_keepThoseThatComeTo 41 = .ok (.ifCond .eq 43, 3) := by decide +kernel
theorem dX2_keepThoseThatComeTo_44 : decode cX2_keepThoseThatComeTo 44 = .ok (.iconst 1, 1) := by decide +kernel
theorem dX2_keepThoseThatComeTo_45 : decode cX2_keepThoseThatComeTo 45 = .ok (.iload 5, 2) := by decide +kernel
theorem dX2_keepThoseThatComeTo_47 : decode cX2_keepThoseThatComeTo 47 = .ok (.ishl, 1) := by decide +kernel
theorem dX2_keepThoseThatComeTo_48 : decode cX2_keepThoseThatComeTo 48 = .ok (.aload_n 0, 1) := by decide +kernel
theorem dX2_keepThoseThatComeTo_49 : decode cX2_keepThoseThatComeTo 49 = .ok (.getfield 20, 3) := by decide +kernel
theorem dX2_keepThoseThatComeTo_52 : decode cX2_keepThoseThatComeTo 52 = .ok (.iload 5, 2) := by decide +kernel
theorem dX2_keepThoseThatComeTo_54 : decode cX2_keepThoseThatComeTo 54 = .ok (.iaload, 1) := by decide +kernel
theorem dX2_keepThoseThatComeTo_55 : decode cX2_keepThoseThatComeTo 55 = .ok (.aload_n 0, 1) := by decide +kernel
theorem dX2_keepThoseThatComeTo_56 : decode cX2_keepThoseThatComeTo 56 = .ok (.getfield 23, 3) := by decide +kernel
theorem dX2_keepThoseThatComeTo_59 : decode cX2_keepThoseThatComeTo 59 = .ok (.iload_n 3, 1) := by decide +kernel
theorem dX2_keepThoseThatComeTo_60 : decode cX2_keepThoseThatComeTo 60 = .ok (.iaload, 1) := by decide +kernel
theorem dX2_keepThoseThatComeTo_61 : decode cX2_keepThoseThatComeTo 61 = .ok (.iand, 1) := by decide +kernel
theorem dX2_keepThoseThatComeTo_62 : decode cX2_keepThoseThatComeTo 62 = .ok (.ior, 1) := by decide +kernel
theorem dX2_keepThoseThatComeTo_63 : decode cX2_keepThoseThatComeTo 63 = .ok (.aload_n 0, 1) := by decide +kernel
theorem dX2_keepThoseThatComeTo_64 : decode cX2_keepThoseThatComeTo 64 = .ok (.getfield 26, 3) := by decide +kernel
theorem dX2_keepThoseThatComeTo_67 : decode cX2_keepThoseThatComeTo 67 = .ok (.iload_n 3, 1) := by decide +kernel
theorem dX2_keepThoseThatComeTo_68 : decode cX2_keepThoseThatComeTo 68 = .ok (.iconst 1, 1) := by decide +kernel
theorem dX2_keepThoseThatComeTo_69 : decode cX2_keepThoseThatComeTo 69 = .ok (.iadd, 1) := by decide +kernel
theorem dX2_keepThoseThatComeTo_70 : decode cX2_keepThoseThatComeTo 70 = .ok (.iaload, 1) := by decide +kernel
theorem dX2_keepThoseThatComeTo_71 : decode cX2_keepThoseThatComeTo 71 = .ok (.iand, 1) := by decide +kernel
theorem dX2_keepThoseThatComeTo_72 : decode cX2_keepThoseThatComeTo 72 = .ok (.ifCond .eq 12, 3) := by decide +kernel
theorem dX2_keepThoseThatComeTo_75 : decode cX2_keepThoseThatComeTo 75 = .ok (.iload 4, 2) := by decide +kernel
theorem dX2_keepThoseThatComeTo_77 : decode cX2_keepThoseThatComeTo 77 = .ok (.iconst 1, 1) := by decide +kernel
theorem dX2_keepThoseThatComeTo_78 : decode cX2_keepThoseThatComeTo 78 = .ok (.iload 5, 2) := by decide +kernel
theorem dX2_keepThoseThatComeTo_80 : decode cX2_keepThoseThatComeTo 80 = .ok (.ishl, 1) := by decide +kernel
theorem dX2_keepThoseThatComeTo_81 : decode cX2_keepThoseThatComeTo 81 = .ok (.ior, 1) := by decide +kernel
theorem dX2_keepThoseThatComeTo_82 : decode cX2_keepThoseThatComeTo 82 = .ok (.istore 4, 2) := by decide +kernel
theorem dX2_keepThoseThatComeTo_84 : decode cX2_keepThoseThatComeTo 84 = .ok (.iinc 5 1, 3) := by decide +kernel
theorem dX2_keepThoseThatComeTo_87 : decode cX2_keepThoseThatComeTo 87 = .ok (.goto (-64), 3) := by decide +kernel
theorem dX2_keepThoseThatComeTo_90 : decode cX2_keepThoseThatComeTo 90 = .ok (.aload_n 0, 1) := by decide +kernel
theorem dX2_keepThoseThatComeTo_91 : decode cX2_keepThoseThatComeTo 91 = .ok (.getfield 26, 3) := by decide +kernel
theorem dX2_keepThoseThatComeTo_94 : decode cX2_keepThoseThatComeTo 94 = .ok (.iload_n 3, 1) := by decide +kernel
theorem dX2_keepThoseThatComeTo_95 : decode cX2_keepThoseThatComeTo 95 = .ok (.iload 4, 2) := by decide +kernel
theorem dX2_keepThoseThatComeTo_97 : decode cX2_keepThoseThatComeTo 97 = .ok (.iastore, 1) := by decide +kernel
theorem dX2_keepThoseThatComeTo_98 : decode cX2_keepThoseThatComeTo 98 = .ok (.iinc 3 (-1), 3) := by decide +kernel
theorem dX2_keepThoseThatComeTo_101 : decode cX2_keepThoseThatComeTo 101 = .ok (.goto (-88), 3) := by decide +kernel
theorem dX2_keepThoseThatComeTo_104 : decode cX2_keepThoseThatComeTo 104 = .ok (.return_, 1) := by decide +kernel
theorem dX2_drawWay_0 : decode cX2_drawWay 0 = .ok (.iload_n 1, 1) := by decide +kernel
theorem dX2_drawWay_1 : decode cX2_drawWay 1 = .ok (.istore_n 3, 1) := by decide +kernel
theorem dX2_drawWay_2 : decode cX2_drawWay 2 = .ok (.iconst 0, 1) := by decide +kernel
theorem dX2_drawWay_3 : decode cX2_drawWay 3 = .ok (.istore 4, 2) := by decide +kernel
theorem dX2_drawWay_5 : decode cX2_drawWay 5 = .ok (.iload 4, 2) := by decide +kernel
theorem dX2_drawWay_7 : decode cX2_drawWay 7 = .ok (.iload_n 2, 1) := by decide +kernel
theorem dX2_drawWay_8 : decode cX2_drawWay 8 = .ok (.if_icmp .ge 74, 3) := by decide +kernel
theorem dX2_drawWay_11 : decode cX2_drawWay 11 = .ok (.iload 4, 2) := by decide +kernel
theorem dX2_drawWay_13 : decode cX2_drawWay 13 = .ok (.bipush 48, 2) := by decide +kernel
theorem dX2_drawWay_15 : decode cX2_drawWay 15 = .ok (.if_icmp .ge 67, 3) := by decide +kernel
theorem dX2_drawWay_18 : decode cX2_drawWay 18 = .ok (.iload_n 3, 1) := by decide +kernel
theorem dX2_drawWay_19 : decode cX2_drawWay 19 = .ok (.ifCond .lt 30, 3) := by decide +kernel
theorem dX2_drawWay_22 : decode cX2_drawWay 22 = .ok (.iload_n 3, 1) := by decide +kernel
theorem dX2_drawWay_23 : decode cX2_drawWay 23 = .ok (.bipush 10, 2) := by decide +kernel
theorem dX2_drawWay_25 : decode cX2_drawWay 25 = .ok (.if_icmp .ge 24, 3) := by decide +kernel
theorem dX2_drawWay_28 : decode cX2_drawWay 28 = .ok (.iconst 1, 1) := by decide +kernel
theorem dX2_drawWay_29 : decode cX2_drawWay 29 = .ok (.iload_n 3, 1) := by decide +kernel
theorem dX2_drawWay_30 : decode cX2_drawWay 30 = .ok (.ishl, 1) := by decide +kernel
theorem dX2_drawWay_31 : decode cX2_drawWay 31 = .ok (.aload_n 0, 1) := by decide +kernel
theorem dX2_drawWay_32 : decode cX2_drawWay 32 = .ok (.getfield 20, 3) := by decide +kernel
theorem dX2_drawWay_35 : decode cX2_drawWay 35 = .ok (.iload_n 3, 1) := by decide +kernel
theorem dX2_drawWay_36 : decode cX2_drawWay 36 = .ok (.iaload, 1) := by decide +kernel
theorem dX2_drawWay_37 : decode cX2_drawWay 37 = .ok (.aload_n 0, 1) := by decide +kernel
theorem dX2_drawWay_38 : decode cX2_drawWay 38 = .ok (.getfield 23, 3) := by decide +kernel
theorem dX2_drawWay_41 : decode cX2_drawWay 41 = .ok (.iload 4, 2) := by decide +kernel
theorem dX2_drawWay_43 : decode cX2_drawWay 43 = .ok (.iaload, 1) := by decide +kernel
theorem dX2_drawWay_44 : decode cX2_drawWay 44 = .ok (.iand, 1) := by decide +kernel
theorem dX2_drawWay_45 : decode cX2_drawWay 45 = .ok (.ior, 1) := by decide +kernel
theorem dX2_drawWay_46 : decode cX2_drawWay 46 = .ok (.goto 4, 3) := by decide +kernel
theorem dX2_drawWay_49 : decode cX2_drawWay 49 = .ok (.iconst 0, 1) := by decide +kernel
theorem dX2_drawWay_50 : decode cX2_drawWay 50 = .ok (.istore 5, 2) := by decide +kernel
theorem dX2_drawWay_52 : decode cX2_drawWay 52 = .ok (.iload 5, 2) := by decide +kernel
theorem dX2_drawWay_54 : decode cX2_drawWay 54 = .ok (.aload_n 0, 1) := by decide +kernel
theorem dX2_drawWay_55 : decode cX2_drawWay 55 = .ok (.getfield 26, 3) := by decide +kernel
theorem dX2_drawWay_58 : decode cX2_drawWay 58 = .ok (.iload 4, 2) := by decide +kernel
theorem dX2_drawWay_60 : decode cX2_drawWay 60 = .ok (.iconst 1, 1) := by decide +kernel
theorem dX2_drawWay_61 : decode cX2_drawWay 61 = .ok (.iadd, 1) := by decide +kernel
theorem dX2_drawWay_62 : decode cX2_drawWay 62 = .ok (.iaload, 1) := by decide +kernel
theorem dX2_drawWay_63 : decode cX2_drawWay 63 = .ok (.iand, 1) := by decide +kernel
theorem dX2_drawWay_64 : decode cX2_drawWay 64 = .ok (.invokestatic 74, 3) := by decide +kernel
theorem dX2_drawWay_67 : decode cX2_drawWay 67 = .ok (.istore_n 3, 1) := by decide +kernel
theorem dX2_drawWay_68 : decode cX2_drawWay 68 = .ok (.aload_n 0, 1) := by decide +kernel
theorem dX2_drawWay_69 : decode cX2_drawWay 69 = .ok (.getfield 9, 3) := by decide +kernel
theorem dX2_drawWay_72 : decode cX2_drawWay 72 = .ok (.iload 4, 2) := by decide +kernel
theorem dX2_drawWay_74 : decode cX2_drawWay 74 = .ok (.iload_n 3, 1) := by decide +kernel
theorem dX2_drawWay_75 : decode cX2_drawWay 75 = .ok (.iastore, 1) := by decide +kernel
theorem dX2_drawWay_76 : decode cX2_drawWay 76 = .ok (.iinc 4 1, 3) := by decide +kernel
theorem dX2_drawWay_79 : decode cX2_drawWay 79 = .ok (.goto (-74), 3) := by decide +kernel
theorem dX2_drawWay_82 : decode cX2_drawWay 82 = .ok (.return_, 1) := by decide +kernel
theorem dX2_lowestOf_0 : decode cX2_lowestOf 0 = .ok (.iconst 0, 1) := by decide +kernel
theorem dX2_lowestOf_1 : decode cX2_lowestOf 1 = .ok (.istore_n 1, 1) := by decide +kernel
theorem dX2_lowestOf_2 : decode cX2_lowestOf 2 = .ok (.iload_n 1, 1) := by decide +kernel
theorem dX2_lowestOf_3 : decode cX2_lowestOf 3 = .ok (.bipush 10, 2) := by decide +kernel
theorem dX2_lowestOf_5 : decode cX2_lowestOf 5 = .ok (.if_icmp .ge 19, 3) := by decide +kernel
theorem dX2_lowestOf_8 : decode cX2_lowestOf 8 = .ok (.iload_n 0, 1) := by decide +kernel
theorem dX2_lowestOf_9 : decode cX2_lowestOf 9 = .ok (.iload_n 1, 1) := by decide +kernel
theorem dX2_lowestOf_10 : decode cX2_lowestOf 10 = .ok (.invokestatic 42, 3) := by decide +kernel
theorem dX2_lowestOf_13 : decode cX2_lowestOf 13 = .ok (.ifCond .eq 5, 3) := by decide +kernel
theorem dX2_lowestOf_16 : decode cX2_lowestOf 16 = .ok (.iload_n 1, 1) := by decide +kernel
theorem dX2_lowestOf_17 : decode cX2_lowestOf 17 = .ok (.ireturn, 1) := by decide +kernel
theorem dX2_lowestOf_18 : decode cX2_lowestOf 18 = .ok (.iinc 1 1, 3) := by decide +kernel
theorem dX2_lowestOf_21 : decode cX2_lowestOf 21 = .ok (.goto (-19), 3) := by decide +kernel
theorem dX2_lowestOf_24 : decode cX2_lowestOf 24 = .ok (.iconst (-1), 1) := by decide +kernel
theorem dX2_lowestOf_25 : decode cX2_lowestOf 25 = .ok (.ireturn, 1) := by decide +kernel
theorem dX2_fewestBetween_0 : decode cX2_fewestBetween 0 = .ok (.aload_n 0, 1) := by decide +kernel
theorem dX2_fewestBetween_1 : decode cX2_fewestBetween 1 = .ok (.aload_n 1, 1) := by decide +kernel
theorem dX2_fewestBetween_2 : decode cX2_fewestBetween 2 = .ok (.iload_n 2, 1) := by decide +kernel
theorem dX2_fewestBetween_3 : decode cX2_fewestBetween 3 = .ok (.invokevirtual 53, 3) := by decide +kernel
theorem dX2_fewestBetween_6 : decode cX2_fewestBetween 6 = .ok (.aload_n 1, 1) := by decide +kernel
theorem dX2_fewestBetween_7 : decode cX2_fewestBetween 7 = .ok (.getfield 77, 3) := by decide +kernel
theorem dX2_fewestBetween_10 : decode cX2_fewestBetween 10 = .ok (.invokevirtual 81, 3) := by decide +kernel
theorem dX2_fewestBetween_13 : decode cX2_fewestBetween 13 = .ok (.istore 4, 2) := by decide +kernel
theorem dX2_fewestBetween_15 : decode cX2_fewestBetween 15 = .ok (.aload_n 1, 1) := by decide +kernel
theorem dX2_fewestBetween_16 : decode cX2_fewestBetween 16 = .ok (.iload_n 2, 1) := by decide +kernel
theorem dX2_fewestBetween_17 : decode cX2_fewestBetween 17 = .ok (.iload 4, 2) := by decide +kernel
theorem dX2_fewestBetween_19 : decode cX2_fewestBetween 19 = .ok (.aload_n 1, 1) := by decide +kernel
theorem dX2_fewestBetween_20 : decode cX2_fewestBetween 20 = .ok (.getfield 57, 3) := by decide +kernel
theorem dX2_fewestBetween_23 : decode cX2_fewestBetween 23 = .ok (.iconst 0, 1) := by decide +kernel
theorem dX2_fewestBetween_24 : decode cX2_fewestBetween 24 = .ok (.iaload, 1) := by decide +kernel
theorem dX2_fewestBetween_25 : decode cX2_fewestBetween 25 = .ok (.invokevirtual 60, 3) := by decide +kernel
theorem dX2_fewestBetween_28 : decode cX2_fewestBetween 28 = .ok (.istore 5, 2) := by decide +kernel
theorem dX2_fewestBetween_30 : decode cX2_fewestBetween 30 = .ok (.iconst 1, 1) := by decide +kernel
theorem dX2_fewestBetween_31 : decode cX2_fewestBetween 31 = .ok (.aload_n 1, 1) := by decide +kernel
theorem dX2_fewestBetween_32 : decode cX2_fewestBetween 32 = .ok (.getfield 50, 3) := by decide +kernel
theorem dX2_fewestBetween_35 : decode cX2_fewestBetween 35 = .ok (.iload_n 2, 1) := by decide +kernel
theorem dX2_fewestBetween_36 : decode cX2_fewestBetween 36 = .ok (.iaload, 1) := by decide +kernel
theorem dX2_fewestBetween_37 : decode cX2_fewestBetween 37 = .ok (.ishl, 1) := by decide +kernel
theorem dX2_fewestBetween_38 : decode cX2_fewestBetween 38 = .ok (.istore 6, 2) := by decide +kernel
theorem dX2_fewestBetween_40 : decode cX2_fewestBetween 40 = .ok (.iload 4, 2) := by decide +kernel
theorem dX2_fewestBetween_42 : decode cX2_fewestBetween 42 = .ok (.iload 6, 2) := by decide +kernel
theorem dX2_fewestBetween_44 : decode cX2_fewestBetween 44 = .ok (.iconst 1, 1) := by decide +kernel
theorem dX2_fewestBetween_45 : decode cX2_fewestBetween 45 = .ok (.iload_n 3, 1) := by decide +kernel
theorem dX2_fewestBetween_46 : decode cX2_fewestBetween 46 = .ok (.ishl, 1) := by decide +kernel
theorem dX2_fewestBetween_47 : decode cX2_fewestBetween 47 = .ok (.ior, 1) := by decide +kernel
theorem dX2_fewestBetween_48 : decode cX2_fewestBetween 48 = .ok (.iconst (-1), 1) := by decide +kernel
theorem dX2_fewestBetween_49 : decode cX2_fewestBetween 49 = .ok (.ixor, 1) := by decide +kernel
theorem dX2_fewestBetween_50 : decode cX2_fewestBetween 50 = .ok (.iand, 1) := by decide +kernel
theorem dX2_fewestBetween_51 : decode cX2_fewestBetween 51 = .ok (.istore 7, 2) := by decide +kernel
theorem dX2_fewestBetween_53 : decode cX2_fewestBetween 53 = .ok (.iload 7, 2) := by decide +kernel
theorem dX2_fewestBetween_55 : decode cX2_fewestBetween 55 = .ok (.istore 8, 2) := by decide +kernel
theorem dX2_fewestBetween_57 : decode cX2_fewestBetween 57 = .ok (.iconst 0, 1) := by decide +kernel
theorem dX2_fewestBetween_58 : decode cX2_fewestBetween 58 = .ok (.istore 9, 2) := by decide +kernel
theorem dX2_fewestBetween_60 : decode cX2_fewestBetween 60 = .ok (.iload 9, 2) := by decide +kernel
theorem dX2_fewestBetween_62 : decode cX2_fewestBetween 62 = .ok (.iload 7, 2) := by decide +kernel
theorem dX2_fewestBetween_64 : decode cX2_fewestBetween 64 = .ok (.if_icmp .ge 61, 3) := by decide +kernel
theorem dX2_fewestBetween_67 : decode cX2_fewestBetween 67 = .ok (.iload 9, 2) := by decide +kernel
theorem dX2_fewestBetween_69 : decode cX2_fewestBetween 69 = .ok (.iload 7, 2) := by decide +kernel
theorem dX2_fewestBetween_71 : decode cX2_fewestBetween 71 = .ok (.iconst (-1), 1) := by decide +kernel
theorem dX2_fewestBetween_72 : decode cX2_fewestBetween 72 = .ok (.ixor, 1) := by decide +kernel
theorem dX2_fewestBetween_73 : decode cX2_fewestBetween 73 = .ok (.iand, 1) := by decide +kernel
theorem dX2_fewestBetween_74 : decode cX2_fewestBetween 74 = .ok (.ifCond .ne 45, 3) := by decide +kernel
theorem dX2_fewestBetween_77 : decode cX2_fewestBetween 77 = .ok (.iload 9, 2) := by decide +kernel
theorem dX2_fewestBetween_79 : decode cX2_fewestBetween 79 = .ok (.invokestatic 87, 3) := by decide +kernel
theorem dX2_fewestBetween_82 : decode cX2_fewestBetween 82 = .ok (.iload 8, 2) := by decide +kernel
theorem dX2_fewestBetween_84 : decode cX2_fewestBetween 84 = .ok (.invokestatic 87, 3) := by decide +kernel
theorem dX2_fewestBetween_87 : decode cX2_fewestBetween 87 = .ok (.if_icmp .lt 6, 3) := by decide +kernel
theorem dX2_fewestBetween_90 : decode cX2_fewestBetween 90 = .ok (.goto 29, 3) := by decide +kernel
theorem dX2_fewestBetween_93 : decode cX2_fewestBetween 93 = .ok (.aload_n 0, 1) := by decide +kernel
theorem dX2_fewestBetween_94 : decode cX2_fewestBetween 94 = .ok (.iload 6, 2) := by decide +kernel
theorem dX2_fewestBetween_96 : decode cX2_fewestBetween 96 = .ok (.bipush 10, 2) := by decide +kernel
theorem dX2_fewestBetween_98 : decode cX2_fewestBetween 98 = .ok (.iload 5, 2) := by decide +kernel
theorem dX2_fewestBetween_100 : decode cX2_fewestBetween 100 = .ok (.iload 9, 2) := by decide +kernel
theorem dX2_fewestBetween_102 : decode cX2_fewestBetween 102 = .ok (.iconst (-1), 1) := by decide +kernel
theorem dX2_fewestBetween_103 : decode cX2_fewestBetween 103 = .ok (.ixor, 1) := by decide +kernel
theorem dX2_fewestBetween_104 : decode cX2_fewestBetween 104 = .ok (.iand, 1) := by decide +kernel
theorem dX2_fewestBetween_105 : decode cX2_fewestBetween 105 = .ok (.invokevirtual 92, 3) := by decide +kernel
theorem dX2_fewestBetween_108 : decode cX2_fewestBetween 108 = .ok (.iload_n 3, 1) := by decide +kernel
theorem dX2_fewestBetween_109 : decode cX2_fewestBetween 109 = .ok (.invokestatic 42, 3) := by decide +kernel
theorem dX2_fewestBetween_112 : decode cX2_fewestBetween 112 = .ok (.ifCond .ne 7, 3) := by decide +kernel
theorem dX2_fewestBetween_115 : decode cX2_fewestBetween 115 = .ok (.iload 9, 2) := by decide +kernel
theorem dX2_fewestBetween_117 : decode cX2_fewestBetween 117 = .ok (.istore 8, 2) := by decide +kernel
theorem dX2_fewestBetween_119 : decode cX2_fewestBetween 119 = .ok (.iinc 9 1, 3) := by decide +kernel
theorem dX2_fewestBetween_122 : decode cX2_fewestBetween 122 = .ok (.goto (-62), 3) := by decide +kernel
theorem dX2_fewestBetween_125 : decode cX2_fewestBetween 125 = .ok (.iload 8, 2) := by decide +kernel
theorem dX2_fewestBetween_127 : decode cX2_fewestBetween 127 = .ok (.ireturn, 1) := by decide +kernel
theorem dX2_nearestRoost_0 : decode cX2_nearestRoost 0 = .ok (.aload_n 1, 1) := by decide +kernel
theorem dX2_nearestRoost_1 : decode cX2_nearestRoost 1 = .ok (.getfield 57, 3) := by decide +kernel
theorem dX2_nearestRoost_4 : decode cX2_nearestRoost 4 = .ok (.iconst 0, 1) := by decide +kernel
theorem dX2_nearestRoost_5 : decode cX2_nearestRoost 5 = .ok (.iaload, 1) := by decide +kernel
theorem dX2_nearestRoost_6 : decode cX2_nearestRoost 6 = .ok (.istore_n 3, 1) := by decide +kernel
theorem dX2_nearestRoost_7 : decode cX2_nearestRoost 7 = .ok (.aload_n 1, 1) := by decide +kernel
theorem dX2_nearestRoost_8 : decode cX2_nearestRoost 8 = .ok (.getfield 77, 3) := by decide +kernel
theorem dX2_nearestRoost_11 : decode cX2_nearestRoost 11 = .ok (.invokevirtual 81, 3) := by decide +kernel
theorem dX2_nearestRoost_14 : decode cX2_nearestRoost 14 = .ok (.istore 4, 2) := by decide +kernel
theorem dX2_nearestRoost_16 : decode cX2_nearestRoost 16 = .ok (.iconst 0, 1) := by decide +kernel
theorem dX2_nearestRoost_17 : decode cX2_nearestRoost 17 = .ok (.istore 5, 2) := by decide +kernel
theorem dX2_nearestRoost_19 : decode cX2_nearestRoost 19 = .ok (.iload 5, 2) := by decide +kernel
theorem dX2_nearestRoost_21 : decode cX2_nearestRoost 21 = .ok (.bipush 24, 2) := by decide +kernel
theorem dX2_nearestRoost_23 : decode cX2_nearestRoost 23 = .ok (.if_icmp .ge 22, 3) := by decide +kernel
theorem dX2_nearestRoost_26 : decode cX2_nearestRoost 26 = .ok (.iload 4, 2) := by decide +kernel
theorem dX2_nearestRoost_28 : decode cX2_nearestRoost 28 = .ok (.aload_n 1, 1) := by decide +kernel
theorem dX2_nearestRoost_29 : decode cX2_nearestRoost 29 = .ok (.iload_n 3, 1) := by decide +kernel
theorem dX2_nearestRoost_30 : decode cX2_nearestRoost 30 = .ok (.iload 5, 2) := by decide +kernel
theorem dX2_nearestRoost_32 : decode cX2_nearestRoost 32 = .ok (.iadd, 1) := by decide +kernel
theorem dX2_nearestRoost_33 : decode cX2_nearestRoost 33 = .ok (.invokevirtual 64, 3) := by decide +kernel
theorem dX2_nearestRoost_36 : decode cX2_nearestRoost 36 = .ok (.iand, 1) := by decide +kernel
theorem dX2_nearestRoost_37 : decode cX2_nearestRoost 37 = .ok (.istore 4, 2) := by decide +kernel
theorem dX2_nearestRoost_39 : decode cX2_nearestRoost 39 = .ok (.iinc 5 1, 3) := by decide +kernel
theorem dX2_nearestRoost_42 : decode cX2_nearestRoost 42 = .ok (.goto (-23), 3) := by decide +kernel
theorem dX2_nearestRoost_45 : decode cX2_nearestRoost 45 = .ok (.aload_n 0, 1) := by decide +kernel
theorem dX2_nearestRoost_46 : decode cX2_nearestRoost 46 = .ok (.aload_n 1, 1) := by decide +kernel
theorem dX2_nearestRoost_47 : decode cX2_nearestRoost 47 = .ok (.iload_n 2, 1) := by decide +kernel
theorem dX2_nearestRoost_48 : decode cX2_nearestRoost 48 = .ok (.invokevirtual 53, 3) := by decide +kernel
theorem dX2_nearestRoost_51 : decode cX2_nearestRoost 51 = .ok (.aload_n 1, 1) := by decide +kernel
theorem dX2_nearestRoost_52 : decode cX2_nearestRoost 52 = .ok (.iload_n 2, 1) := by decide +kernel
theorem dX2_nearestRoost_53 : decode cX2_nearestRoost 53 = .ok (.aload_n 1, 1) := by decide +kernel
theorem dX2_nearestRoost_54 : decode cX2_nearestRoost 54 = .ok (.getfield 77, 3) := by decide +kernel
theorem dX2_nearestRoost_57 : decode cX2_nearestRoost 57 = .ok (.invokevirtual 81, 3) := by decide +kernel
theorem dX2_nearestRoost_60 : decode cX2_nearestRoost 60 = .ok (.iload_n 3, 1) := by decide +kernel
theorem dX2_nearestRoost_61 : decode cX2_nearestRoost 61 = .ok (.invokevirtual 60, 3) := by decide +kernel
theorem dX2_nearestRoost_64 : decode cX2_nearestRoost 64 = .ok (.istore 5, 2) := by decide +kernel
theorem dX2_nearestRoost_66 : decode cX2_nearestRoost 66 = .ok (.iconst 0, 1) := by decide +kernel
theorem dX2_nearestRoost_67 : decode cX2_nearestRoost 67 = .ok (.istore 6, 2) := by decide +kernel
theorem dX2_nearestRoost_69 : decode cX2_nearestRoost 69 = .ok (.iload 6, 2) := by decide +kernel
theorem dX2_nearestRoost_71 : decode cX2_nearestRoost 71 = .ok (.bipush 10, 2) := by decide +kernel
theorem dX2_nearestRoost_73 : decode cX2_nearestRoost 73 = .ok (.if_icmp .gt 41, 3) := by decide +kernel
theorem dX2_nearestRoost_76 : decode cX2_nearestRoost 76 = .ok (.aload_n 0, 1) := by decide +kernel
theorem dX2_nearestRoost_77 : decode cX2_nearestRoost 77 = .ok (.iconst 1, 1) := by decide +kernel
theorem dX2_nearestRoost_78 : decode cX2_nearestRoost 78 = .ok (.aload_n 1, 1) := by decide +kernel
theorem dX2_nearestRoost_79 : decode cX2_nearestRoost 79 = .ok (.getfield 50, 3) := by decide +kernel
theorem dX2_nearestRoost_82 : decode cX2_nearestRoost 82 = .ok (.iload_n 2, 1) := by decide +kernel
theorem dX2_nearestRoost_83 : decode cX2_nearestRoost 83 = .ok (.iaload, 1) := by decide +kernel
theorem dX2_nearestRoost_84 : decode cX2_nearestRoost 84 = .ok (.ishl, 1) := by decide +kernel
theorem dX2_nearestRoost_85 : decode cX2_nearestRoost 85 = .ok (.iload 6, 2) := by decide +kernel
theorem dX2_nearestRoost_87 : decode cX2_nearestRoost 87 = .ok (.iload 5, 2) := by decide +kernel
theorem dX2_nearestRoost_89 : decode cX2_nearestRoost 89 = .ok (.invokevirtual 92, 3) := by decide +kernel
theorem dX2_nearestRoost_92 : decode cX2_nearestRoost 92 = .ok (.iload 4, 2) := by decide +kernel
theorem dX2_nearestRoost_94 : decode cX2_nearestRoost 94 = .ok (.iand, 1) := by decide +kernel
theorem dX2_nearestRoost_95 : decode cX2_nearestRoost 95 = .ok (.istore 7, 2) := by decide +kernel
theorem dX2_nearestRoost_97 : decode cX2_nearestRoost 97 = .ok (.iload 7, 2) := by decide +kernel
theorem dX2_nearestRoost_99 : decode cX2_nearestRoost 99 = .ok (.ifCond .eq 9, 3) := by decide +kernel
theorem dX2_nearestRoost_102 : decode cX2_nearestRoost 102 = .ok (.iload 7, 2) := by decide +kernel
theorem dX2_nearestRoost_104 : decode cX2_nearestRoost 104 = .ok (.invokestatic 74, 3) := by decide +kernel
theorem dX2_nearestRoost_107 : decode cX2_nearestRoost 107 = .ok (.ireturn, 1) := by decide +kernel
theorem dX2_nearestRoost_108 : decode cX2_nearestRoost 108 = .ok (.iinc 6 1, 3) := by decide +kernel
theorem dX2_nearestRoost_111 : decode cX2_nearestRoost 111 = .ok (.goto (-42), 3) := by decide +kernel
theorem dX2_nearestRoost_114 : decode cX2_nearestRoost 114 = .ok (.iconst (-1), 1) := by decide +kernel
theorem dX2_nearestRoost_115 : decode cX2_nearestRoost 115 = .ok (.ireturn, 1) := by decide +kernel
theorem dX2_drawTrack_0 : decode cX2_drawTrack 0 = .ok (.aload_n 1, 1) := by decide +kernel
theorem dX2_drawTrack_1 : decode cX2_drawTrack 1 = .ok (.iload_n 2, 1) := by decide +kernel
theorem dX2_drawTrack_2 : decode cX2_drawTrack 2 = .ok (.invokevirtual 95, 3) := by decide +kernel
theorem dX2_drawTrack_5 : decode cX2_drawTrack 5 = .ok (.ifCond .ne 4, 3) := by decide +kernel
theorem dX2_drawTrack_8 : decode cX2_drawTrack 8 = .ok (.return_, 1) := by decide +kernel
theorem dX2_drawTrack_9 : decode cX2_drawTrack 9 = .ok (.aload_n 0, 1) := by decide +kernel
theorem dX2_drawTrack_10 : decode cX2_drawTrack 10 = .ok (.getfield 17, 3) := by decide +kernel
theorem dX2_drawTrack_13 : decode cX2_drawTrack 13 = .ok (.iload_n 2, 1) := by decide +kernel
theorem dX2_drawTrack_14 : decode cX2_drawTrack 14 = .ok (.aaload, 1) := by decide +kernel
theorem dX2_drawTrack_15 : decode cX2_drawTrack 15 = .ok (.astore_n 3, 1) := by decide +kernel
theorem dX2_drawTrack_16 : decode cX2_drawTrack 16 = .ok (.aload_n 1, 1) := by decide +kernel
theorem dX2_drawTrack_17 : decode cX2_drawTrack 17 = .ok (.getfield 99, 3) := by decide +kernel
theorem dX2_drawTrack_20 : decode cX2_drawTrack 20 = .ok (.iload_n 2, 1) := by decide +kernel
theorem dX2_drawTrack_21 : decode cX2_drawTrack 21 = .ok (.iaload, 1) := by decide +kernel
theorem dX2_drawTrack_22 : decode cX2_drawTrack 22 = .ok (.istore 4, 2) := by decide +kernel
theorem dX2_drawTrack_24 : decode cX2_drawTrack 24 = .ok (.iconst 0, 1) := by decide +kernel
theorem dX2_drawTrack_25 : decode cX2_drawTrack 25 = .ok (.istore 5, 2) := by decide +kernel
theorem dX2_drawTrack_27 : decode cX2_drawTrack 27 = .ok (.iload 5, 2) := by decide +kernel
theorem dX2_drawTrack_29 : decode cX2_drawTrack 29 = .ok (.bipush 60, 2) := by decide +kernel
theorem dX2_drawTrack_31 : decode cX2_drawTrack 31 = .ok (.if_icmp .gt 33, 3) := by decide +kernel
theorem dX2_drawTrack_34 : decode cX2_drawTrack 34 = .ok (.aload_n 3, 1) := by decide +kernel
theorem dX2_drawTrack_35 : decode cX2_drawTrack 35 = .ok (.iload 5, 2) := by decide +kernel
theorem dX2_drawTrack_37 : decode cX2_drawTrack 37 = .ok (.iload 4, 2) := by decide +kernel
theorem dX2_drawTrack_39 : decode cX2_drawTrack 39 = .ok (.iastore, 1) := by decide +kernel
theorem dX2_drawTrack_40 : decode cX2_drawTrack 40 = .ok (.aload_n 1, 1) := by decide +kernel
theorem dX2_drawTrack_41 : decode cX2_drawTrack 41 = .ok (.iload_n 2, 1) := by decide +kernel
theorem dX2_drawTrack_42 : decode cX2_drawTrack 42 = .ok (.iload 4, 2) := by decide +kernel
theorem dX2_drawTrack_44 : decode cX2_drawTrack 44 = .ok (.aload_n 1, 1) := by decide +kernel
theorem dX2_drawTrack_45 : decode cX2_drawTrack 45 = .ok (.getfield 57, 3) := by decide +kernel
theorem dX2_drawTrack_48 : decode cX2_drawTrack 48 = .ok (.iconst 0, 1) := by decide +kernel
theorem dX2_drawTrack_49 : decode cX2_drawTrack 49 = .ok (.iaload, 1) := by decide +kernel
theorem dX2_drawTrack_50 : decode cX2_drawTrack 50 = .ok (.iload 5, 2) := by decide +kernel
theorem dX2_drawTrack_52 : decode cX2_drawTrack 52 = .ok (.iadd, 1) := by decide +kernel
theorem dX2_drawTrack_53 : decode cX2_drawTrack 53 = .ok (.invokevirtual 102, 3) := by decide +kernel
theorem dX2_drawTrack_56 : decode cX2_drawTrack 56 = .ok (.istore 4, 2) := by decide +kernel
theorem dX2_drawTrack_58 : decode cX2_drawTrack 58 = .ok (.iinc 5 1, 3) := by decide +kernel
theorem dX2_drawTrack_61 : decode cX2_drawTrack 61 = .ok (.goto (-34), 3) := by decide +kernel
theorem dX2_drawTrack_64 : decode cX2_drawTrack 64 = .ok (.return_, 1) := by decide +kernel
theorem dX2_whoCanBe_0 : decode cX2_whoCanBe 0 = .ok (.iconst 0, 1) := by decide +kernel
theorem dX2_whoCanBe_1 : decode cX2_whoCanBe 1 = .ok (.istore_n 2, 1) := by decide +kernel
theorem dX2_whoCanBe_2 : decode cX2_whoCanBe 2 = .ok (.iconst 0, 1) := by decide +kernel
theorem dX2_whoCanBe_3 : decode cX2_whoCanBe 3 = .ok (.istore_n 3, 1) := by decide +kernel
theorem dX2_whoCanBe_4 : decode cX2_whoCanBe 4 = .ok (.iload_n 3, 1) := by decide +kernel
theorem dX2_whoCanBe_5 : decode cX2_whoCanBe 5 = .ok (.aload_n 1, 1) := by decide +kernel
theorem dX2_whoCanBe_6 : decode cX2_whoCanBe 6 = .ok (.getfield 105, 3) := by decide +kernel
theorem dX2_whoCanBe_9 : decode cX2_whoCanBe 9 = .ok (.if_icmp .ge 106, 3) := by decide +kernel
theorem dX2_whoCanBe_12 : decode cX2_whoCanBe 12 = .ok (.iload_n 3, 1) := by decide +kernel
theorem dX2_whoCanBe_13 : decode cX2_whoCanBe 13 = .ok (.iconst 3, 1) := by decide +kernel
theorem dX2_whoCanBe_14 : decode cX2_whoCanBe 14 = .ok (.if_icmp .ge 101, 3) := by decide +kernel
theorem dX2_whoCanBe_17 : decode cX2_whoCanBe 17 = .ok (.aload_n 0, 1) := by decide +kernel
theorem dX2_whoCanBe_18 : decode cX2_whoCanBe 18 = .ok (.aload_n 1, 1) := by decide +kernel
theorem dX2_whoCanBe_19 : decode cX2_whoCanBe 19 = .ok (.iload_n 3, 1) := by decide +kernel
theorem dX2_whoCanBe_20 : decode cX2_whoCanBe 20 = .ok (.invokevirtual 109, 3) := by decide +kernel
theorem dX2_whoCanBe_23 : decode cX2_whoCanBe 23 = .ok (.iconst 1, 1) := by decide +kernel
theorem dX2_whoCanBe_24 : decode cX2_whoCanBe 24 = .ok (.istore 4, 2) := by decide +kernel
theorem dX2_whoCanBe_26 : decode cX2_whoCanBe 26 = .ok (.iconst 0, 1) := by decide +kernel
theorem dX2_whoCanBe_27 : decode cX2_whoCanBe 27 = .ok (.istore 5, 2) := by decide +kernel
theorem dX2_whoCanBe_29 : decode cX2_whoCanBe 29 = .ok (.iload 5, 2) := by decide +kernel
theorem dX2_whoCanBe_31 : decode cX2_whoCanBe 31 = .ok (.aload_n 1, 1) := by decide +kernel
theorem dX2_whoCanBe_32 : decode cX2_whoCanBe 32 = .ok (.getfield 112, 3) := by decide +kernel
theorem dX2_whoCanBe_35 : decode cX2_whoCanBe 35 = .ok (.if_icmp .ge 59, 3) := by decide +kernel
theorem dX2_whoCanBe_38 : decode cX2_whoCanBe 38 = .ok (.iload 5, 2) := by decide +kernel
theorem dX2_whoCanBe_40 : decode cX2_whoCanBe 40 = .ok (.bipush 6, 2) := by decide +kernel
theorem dX2_whoCanBe_42 : decode cX2_whoCanBe 42 = .ok (.if_icmp .ge 52, 3) := by decide +kernel
theorem dX2_whoCanBe_45 : decode cX2_whoCanBe 45 = .ok (.aload_n 1, 1) := by decide +kernel
theorem dX2_whoCanBe_46 : decode cX2_whoCanBe 46 = .ok (.getfield 115, 3) := by decide +kernel
theorem dX2_whoCanBe_49 : decode cX2_whoCanBe 49 = .ok (.iload 5, 2) := by decide +kernel
theorem dX2_whoCanBe_51 : decode cX2_whoCanBe 51 = .ok (.iaload, 1) := by decide +kernel
theorem dX2_whoCanBe_52 : decode cX2_whoCanBe 52 = .ok (.istore 6, 2) := by decide +kernel
theorem dX2_whoCanBe_54 : decode cX2_whoCanBe 54 = .ok (.iload 6, 2) := by decide +kernel
theorem dX2_whoCanBe_56 : decode cX2_whoCanBe 56 = .ok (.ifCond .lt 29, 3) := by decide +kernel
theorem dX2_whoCanBe_59 : decode cX2_whoCanBe 59 = .ok (.iload 6, 2) := by decide +kernel
theorem dX2_whoCanBe_61 : decode cX2_whoCanBe 61 = .ok (.bipush 60, 2) := by decide +kernel
theorem dX2_whoCanBe_63 : decode cX2_whoCanBe 63 = .ok (.if_icmp .gt 22, 3) := by decide +kernel
theorem dX2_whoCanBe_66 : decode cX2_whoCanBe 66 = .ok (.aload_n 0, 1) := by decide +kernel
theorem dX2_whoCanBe_67 : decode cX2_whoCanBe 67 = .ok (.getfield 17, 3) := by decide +kernel
theorem dX2_whoCanBe_70 : decode cX2_whoCanBe 70 = .ok (.iload_n 3, 1) := by decide +kernel
theorem dX2_whoCanBe_71 : decode cX2_whoCanBe 71 = .ok (.aaload, 1) := by decide +kernel
theorem dX2_whoCanBe_72 : decode cX2_whoCanBe 72 = .ok (.iload 6, 2) := by decide +kernel
theorem dX2_whoCanBe_74 : decode cX2_whoCanBe 74 = .ok (.iaload, 1) := by decide +kernel
theorem dX2_whoCanBe_75 : decode cX2_whoCanBe 75 = .ok (.aload_n 1, 1) := by decide +kernel
theorem dX2_whoCanBe_76 : decode cX2_whoCanBe 76 = .ok (.getfield 118, 3) := by decide +kernel
theorem dX2_whoCanBe_79 : decode cX2_whoCanBe 79 = .ok (.iload 5, 2) := by decide +kernel
theorem dX2_whoCanBe_81 : decode cX2_whoCanBe 81 = .ok (.iaload, 1) := by decide +kernel
theorem dX2_whoCanBe_82 : decode cX2_whoCanBe 82 = .ok (.if_icmp .eq 6, 3) := by decide +kernel
theorem dX2_whoCanBe_85 : decode cX2_whoCanBe 85 = .ok (.iconst 0, 1) := by decide +kernel
theorem dX2_whoCanBe_86 : decode cX2_whoCanBe 86 = .ok (.istore 4, 2) := by decide +kernel
theorem dX2_whoCanBe_88 : decode cX2_whoCanBe 88 = .ok (.iinc 5 1, 3) := by decide +kernel
theorem dX2_whoCanBe_91 : decode cX2_whoCanBe 91 = .ok (.goto (-62), 3) := by decide +kernel
theorem dX2_whoCanBe_94 : decode cX2_whoCanBe 94 = .ok (.iload_n 2, 1) := by decide +kernel
theorem dX2_whoCanBe_95 : decode cX2_whoCanBe 95 = .ok (.iload 4, 2) := by decide +kernel
theorem dX2_whoCanBe_97 : decode cX2_whoCanBe 97 = .ok (.ifCond .eq 9, 3) := by decide +kernel
theorem dX2_whoCanBe_100 : decode cX2_whoCanBe 100 = .ok (.iconst 1, 1) := by decide +kernel
theorem dX2_whoCanBe_101 : decode cX2_whoCanBe 101 = .ok (.iload_n 3, 1) := by decide +kernel
theorem dX2_whoCanBe_102 : decode cX2_whoCanBe 102 = .ok (.ishl, 1) := by decide +kernel
theorem dX2_whoCanBe_103 : decode cX2_whoCanBe 103 = .ok (.goto 4, 3) := by decide +kernel
theorem dX2_whoCanBe_106 : decode cX2_whoCanBe 106 = .ok (.iconst 0, 1) := by decide +kernel
theorem dX2_whoCanBe_107 : decode cX2_whoCanBe 107 = .ok (.ior, 1) := by decide +kernel
theorem dX2_whoCanBe_108 : decode cX2_whoCanBe 108 = .ok (.istore_n 2, 1) := by decide +kernel
theorem dX2_whoCanBe_109 : decode cX2_whoCanBe 109 = .ok (.iinc 3 1, 3) := by decide +kernel
theorem dX2_whoCanBe_112 : decode cX2_whoCanBe 112 = .ok (.goto (-108), 3) := by decide +kernel
theorem dX2_whoCanBe_115 : decode cX2_whoCanBe 115 = .ok (.iload_n 2, 1) := by decide +kernel
theorem dX2_whoCanBe_116 : decode cX2_whoCanBe 116 = .ok (.ireturn, 1) := by decide +kernel
theorem dX2_mostTogether_0 : decode cX2_mostTogether 0 = .ok (.aload_n 0, 1) := by decide +kernel
theorem dX2_mostTogether_1 : decode cX2_mostTogether 1 = .ok (.getfield 29, 3) := by decide +kernel
theorem dX2_mostTogether_4 : decode cX2_mostTogether 4 = .ok (.iconst 0, 1) := by decide +kernel
theorem dX2_mostTogether_5 : decode cX2_mostTogether 5 = .ok (.invokestatic 121, 3) := by decide +kernel
theorem dX2_mostTogether_8 : decode cX2_mostTogether 8 = .ok (.iconst 0, 1) := by decide +kernel
theorem dX2_mostTogether_9 : decode cX2_mostTogether 9 = .ok (.istore_n 3, 1) := by decide +kernel
theorem dX2_mostTogether_10 : decode cX2_mostTogether 10 = .ok (.iconst 0, 1) := by decide +kernel
theorem dX2_mostTogether_11 : decode cX2_mostTogether 11 = .ok (.istore 4, 2) := by decide +kernel
theorem dX2_mostTogether_13 : decode cX2_mostTogether 13 = .ok (.iload 4, 2) := by decide +kernel
theorem dX2_mostTogether_15 : decode cX2_mostTogether 15 = .ok (.iconst 3, 1) := by decide +kernel
theorem dX2_mostTogether_16 : decode cX2_mostTogether 16 = .ok (.if_icmp .ge 75, 3) := by decide +kernel
theorem dX2_mostTogether_19 : decode cX2_mostTogether 19 = .ok (.iload_n 1, 1) := by decide +kernel
theorem dX2_mostTogether_20 : decode cX2_mostTogether 20 = .ok (.iload 4, 2) := by decide +kernel
theorem dX2_mostTogether_22 : decode cX2_mostTogether 22 = .ok (.invokestatic 42, 3) := by decide +kernel
theorem dX2_mostTogether_25 : decode cX2_mostTogether 25 = .ok (.ifCond .eq 25, 3) := by decide +kernel
theorem dX2_mostTogether_28 : decode cX2_mostTogether 28 = .ok (.iload_n 2, 1) := by decide +kernel
theorem dX2_mostTogether_29 : decode cX2_mostTogether 29 = .ok (.ifCond .lt 21, 3) := by decide +kernel
theorem dX2_mostTogether_32 : decode cX2_mostTogether 32 = .ok (.iload_n 2, 1) := by decide +kernel
theorem dX2_mostTogether_33 : decode cX2_mostTogether 33 = .ok (.bipush 60, 2) := by decide +kernel
theorem dX2_mostTogether_35 : decode cX2_mostTogether 35 = .ok (.if_icmp .gt 15, 3) := by decide +kernel
theorem dX2_mostTogether_38 : decode cX2_mostTogether 38 = .ok (.aload_n 0, 1) := by decide +kernel
theorem dX2_mostTogether_39 : decode cX2_mostTogether 39 = .ok (.getfield 17, 3) := by decide +kernel
theorem dX2_mostTogether_42 : decode cX2_mostTogether 42 = .ok (.iload 4, 2) := by decide +kernel
theorem dX2_mostTogether_44 : decode cX2_mostTogether 44 = .ok (.aaload, 1) := by decide +kernel
theorem dX2_mostTogether_45 : decode cX2_mostTogether 45 = .ok (.iload_n 2, 1) := by decide +kernel
theorem dX2_mostTogether_46 : decode cX2_mostTogether 46 = .ok (.iaload, 1) := by decide +kernel
theorem dX2_mostTogether_47 : decode cX2_mostTogether 47 = .ok (.goto 4, 3) := by decide +kernel
theorem dX2_mostTogether_50 : decode cX2_mostTogether 50 = .ok (.iconst (-1), 1) := by decide +kernel
theorem dX2_mostTogether_51 : decode cX2_mostTogether 51 = .ok (.istore 5, 2) := by decide +kernel
theorem dX2_mostTogether_53 : decode cX2_mostTogether 53 = .ok (.iload 5, 2) := by decide +kernel
theorem dX2_mostTogether_55 : decode cX2_mostTogether 55 = .ok (.i2l, 1) := by decide +kernel
theorem dX2_mostTogether_56 : decode cX2_mostTogether 56 = .ok (.invokestatic 127, 3) := by decide +kernel
theorem dX2_mostTogether_59 : decode cX2_mostTogether 59 = .ok (.ifCond .eq 26, 3) := by decide +kernel
theorem dX2_mostTogether_62 : decode cX2_mostTogether 62 = .ok (.aload_n 0, 1) := by decide +kernel
theorem dX2_mostTogether_63 : decode cX2_mostTogether 63 = .ok (.getfield 29, 3) := by decide +kernel
theorem dX2_mostTogether_66 : decode cX2_mostTogether 66 = .ok (.iload 5, 2) := by decide +kernel
theorem dX2_mostTogether_68 : decode cX2_mostTogether 68 = .ok (.dup2, 1) := by decide +kernel
theorem dX2_mostTogether_69 : decode cX2_mostTogether 69 = .ok (.iaload, 1) := by decide +kernel
theorem dX2_mostTogether_70 : decode cX2_mostTogether 70 = .ok (.iconst 1, 1) := by decide +kernel
theorem dX2_mostTogether_71 : decode cX2_mostTogether 71 = .ok (.iadd, 1) := by decide +kernel
theorem dX2_mostTogether_72 : decode cX2_mostTogether 72 = .ok (.iastore, 1) := by decide +kernel
theorem dX2_mostTogether_73 : decode cX2_mostTogether 73 = .ok (.iload_n 3, 1) := by decide +kernel
theorem dX2_mostTogether_74 : decode cX2_mostTogether 74 = .ok (.aload_n 0, 1) := by decide +kernel
theorem dX2_mostTogether_75 : decode cX2_mostTogether 75 = .ok (.getfield 29, 3) := by decide +kernel
theorem dX2_mostTogether_78 : decode cX2_mostTogether 78 = .ok (.iload 5, 2) := by decide +kernel
theorem dX2_mostTogether_80 : decode cX2_mostTogether 80 = .ok (.iaload, 1) := by decide +kernel
theorem dX2_mostTogether_81 : decode cX2_mostTogether 81 = .ok (.invokestatic 131, 3) := by decide +kernel
theorem dX2_mostTogether_84 : decode cX2_mostTogether 84 = .ok (.istore_n 3, 1) := by decide +kernel
theorem dX2_mostTogether_85 : decode cX2_mostTogether 85 = .ok (.iinc 4 1, 3) := by decide +kernel
theorem dX2_mostTogether_88 : decode cX2_mostTogether 88 = .ok (.goto (-75), 3) := by decide +kernel
theorem dX2_mostTogether_91 : decode cX2_mostTogether 91 = .ok (.iload_n 3, 1) := by decide +kernel
theorem dX2_mostTogether_92 : decode cX2_mostTogether 92 = .ok (.ireturn, 1) := by decide +kernel
theorem dX2_chanceOfFew_0 : decode cX2_chanceOfFew 0 = .ok (.iload_n 1, 1) := by decide +kernel
theorem dX2_chanceOfFew_1 : decode cX2_chanceOfFew 1 = .ok (.aload_n 0, 1) := by decide +kernel
theorem dX2_chanceOfFew_2 : decode cX2_chanceOfFew 2 = .ok (.getfield 32, 3) := by decide +kernel
theorem dX2_chanceOfFew_5 : decode cX2_chanceOfFew 5 = .ok (.arraylength, 1) := by decide +kernel
theorem dX2_chanceOfFew_6 : decode cX2_chanceOfFew 6 = .ok (.invokestatic 137, 3) := by decide +kernel
theorem dX2_chanceOfFew_9 : decode cX2_chanceOfFew 9 = .ok (.istore 4, 2) := by decide +kernel
theorem dX2_chanceOfFew_11 : decode cX2_chanceOfFew 11 = .ok (.aload_n 0, 1) := by decide +kernel
theorem dX2_chanceOfFew_12 : decode cX2_chanceOfFew 12 = .ok (.getfield 32, 3) := by decide +kernel
theorem dX2_chanceOfFew_15 : decode cX2_chanceOfFew 15 = .ok (.lconst 0, 1) := by decide +kernel
theorem dX2_chanceOfFew_16 : decode cX2_chanceOfFew 16 = .ok (.invokestatic 140, 3) := by decide +kernel
theorem dX2_chanceOfFew_19 : decode cX2_chanceOfFew 19 = .ok (.aload_n 0, 1) := by decide +kernel
theorem dX2_chanceOfFew_20 : decode cX2_chanceOfFew 20 = .ok (.getfield 32, 3) := by decide +kernel
theorem dX2_chanceOfFew_23 : decode cX2_chanceOfFew 23 = .ok (.iconst 0, 1) := by decide +kernel
theorem dX2_chanceOfFew_24 : decode cX2_chanceOfFew 24 = .ok (.ldc2_w 143, 3) := by decide +kernel
theorem dX2_chanceOfFew_27 : decode cX2_chanceOfFew 27 = .ok (.lastore, 1) := by decide +kernel
theorem dX2_chanceOfFew_28 : decode cX2_chanceOfFew 28 = .ok (.iconst 0, 1) := by decide +kernel
theorem dX2_chanceOfFew_29 : decode cX2_chanceOfFew 29 = .ok (.istore 5, 2) := by decide +kernel
theorem dX2_chanceOfFew_31 : decode cX2_chanceOfFew 31 = .ok (.iload 5, 2) := by decide +kernel
theorem dX2_chanceOfFew_33 : decode cX2_chanceOfFew 33 = .ok (.iload_n 2, 1) := by decide +kernel
theorem dX2_chanceOfFew_34 : decode cX2_chanceOfFew 34 = .ok (.if_icmp .ge 80, 3) := by decide +kernel
theorem dX2_chanceOfFew_37 : decode cX2_chanceOfFew 37 = .ok (.iload 4, 2) := by decide +kernel
theorem dX2_chanceOfFew_39 : decode cX2_chanceOfFew 39 = .ok (.iconst 1, 1) := by decide +kernel
theorem dX2_chanceOfFew_40 : decode cX2_chanceOfFew 40 = .ok (.isub, 1) := by decide +kernel
theorem dX2_chanceOfFew_41 : decode cX2_chanceOfFew 41 = .ok (.istore 6, 2) := by decide +kernel
theorem dX2_chanceOfFew_43 : decode cX2_chanceOfFew 43 = .ok (.iload 6, 2) := by decide +kernel
theorem dX2_chanceOfFew_45 : decode cX2_chanceOfFew 45 = .ok (.ifCond .lt 63, 3) := by decide +kernel
theorem dX2_chanceOfFew_48 : decode cX2_chanceOfFew 48 = .ok (.iload 6, 2) := by decide +kernel
theorem dX2_chanceOfFew_50 : decode cX2_chanceOfFew 50 = .ok (.ifCond .le 22, 3) := by decide +kernel
theorem dX2_chanceOfFew_53 : decode cX2_chanceOfFew 53 = .ok (.aload_n 0, 1) := by decide +kernel
theorem dX2_chanceOfFew_54 : decode cX2_chanceOfFew 54 = .ok (.getfield 32, 3) := by decide +kernel
theorem dX2_chanceOfFew_57 : decode cX2_chanceOfFew 57 = .ok (.iload 6, 2) := by decide +kernel
theorem dX2_chanceOfFew_59 : decode cX2_chanceOfFew 59 = .ok (.iconst 1, 1) := by decide +kernel
theorem dX2_chanceOfFew_60 : decode cX2_chanceOfFew 60 = .ok (.isub, 1) := by decide +kernel
theorem dX2_chanceOfFew_61 : decode cX2_chanceOfFew 61 = .ok (.laload, 1) := by decide +kernel
theorem dX2_chanceOfFew_62 : decode cX2_chanceOfFew 62 = .ok (.iload_n 3, 1) := by decide +kernel
theorem dX2_chanceOfFew_63 : decode cX2_chanceOfFew 63 = .ok (.i2l, 1) := by decide +kernel
theorem dX2_chanceOfFew_64 : decode cX2_chanceOfFew 64 = .ok (.lmul, 1) := by decide +kernel
theorem dX2_chanceOfFew_65 : decode cX2_chanceOfFew 65 = .ok (.ldc2_w 145, 3) := by decide +kernel
theorem dX2_chanceOfFew_68 : decode cX2_chanceOfFew 68 = .ok (.ldiv, 1) := by decide +kernel
theorem dX2_chanceOfFew_69 : decode cX2_chanceOfFew 69 = .ok (.goto 4, 3) := by decide +kernel
theorem dX2_chanceOfFew_72 : decode cX2_chanceOfFew 72 = .ok (.lconst 0, 1) := by decide +kernel
theorem dX2_chanceOfFew_73 : decode cX2_chanceOfFew 73 = .ok (.lstore 7, 2) := by decide +kernel
theorem dX2_chanceOfFew_75 : decode cX2_chanceOfFew 75 = .ok (.aload_n 0, 1) := by decide +kernel
theorem dX2_chanceOfFew_76 : decode cX2_chanceOfFew 76 = .ok (.getfield 32, 3) := by decide +kernel
theorem dX2_chanceOfFew_79 : decode cX2_chanceOfFew 79 = .ok (.iload 6, 2) := by decide +kernel
theorem dX2_chanceOfFew_81 : decode cX2_chanceOfFew 81 = .ok (.aload_n 0, 1) := by decide +kernel
theorem dX2_chanceOfFew_82 : decode cX2_chanceOfFew 82 = .ok (.getfield 32, 3) := by decide +kernel
theorem dX2_chanceOfFew_85 : decode cX2_chanceOfFew 85 = .ok (.iload 6, 2) := by decide +kernel
theorem dX2_chanceOfFew_87 : decode cX2_chanceOfFew 87 = .ok (.laload, 1) := by decide +kernel
theorem dX2_chanceOfFew_88 : decode cX2_chanceOfFew 88 = .ok (.bipush 10, 2) := by decide +kernel
theorem dX2_chanceOfFew_90 : decode cX2_chanceOfFew 90 = .ok (.iload_n 3, 1) := by decide +kernel
theorem dX2_chanceOfFew_91 : decode cX2_chanceOfFew 91 = .ok (.isub, 1) := by decide +kernel
theorem dX2_chanceOfFew_92 : decode cX2_chanceOfFew 92 = .ok (.i2l, 1) := by decide +kernel
theorem dX2_chanceOfFew_93 : decode cX2_chanceOfFew 93 = .ok (.lmul, 1) := by decide +kernel
theorem dX2_chanceOfFew_94 : decode cX2_chanceOfFew 94 = .ok (.ldc2_w 145, 3) := by decide +kernel
theorem dX2_chanceOfFew_97 : decode cX2_chanceOfFew 97 = .ok (.ldiv, 1) := by decide +kernel
theorem dX2_chanceOfFew_98 : decode cX2_chanceOfFew 98 = .ok (.lload 7, 2) := by decide +kernel
theorem dX2_chanceOfFew_100 : decode cX2_chanceOfFew 100 = .ok (.ladd, 1) := by decide +kernel
theorem dX2_chanceOfFew_101 : decode cX2_chanceOfFew 101 = .ok (.lastore, 1) := by decide +kernel
theorem dX2_chanceOfFew_102 : decode cX2_chanceOfFew 102 = .ok (.iinc 6 (-1), 3) := by decide +kernel
theorem dX2_chanceOfFew_105 : decode cX2_chanceOfFew 105 = .ok (.goto (-62), 3) := by decide +kernel
theorem dX2_chanceOfFew_108 : decode cX2_chanceOfFew 108 = .ok (.iinc 5 1, 3) := by decide +kernel
theorem dX2_chanceOfFew_111 : decode cX2_chanceOfFew 111 = .ok (.goto (-80), 3) := by decide +kernel
theorem dX2_chanceOfFew_114 : decode cX2_chanceOfFew 114 = .ok (.lconst 0, 1) := by decide +kernel
theorem dX2_chanceOfFew_115 : decode cX2_chanceOfFew 115 = .ok (.lstore 5, 2) := by decide +kernel
theorem dX2_chanceOfFew_117 : decode cX2_chanceOfFew 117 = .ok (.iconst 0, 1) := by decide +kernel
theorem dX2_chanceOfFew_118 : decode cX2_chanceOfFew 118 = .ok (.istore 7, 2) := by decide +kernel
theorem dX2_chanceOfFew_120 : decode cX2_chanceOfFew 120 = .ok (.iload 7, 2) := by decide +kernel
theorem dX2_chanceOfFew_122 : decode cX2_chanceOfFew 122 = .ok (.iload 4, 2) := by decide +kernel
theorem dX2_chanceOfFew_124 : decode cX2_chanceOfFew 124 = .ok (.if_icmp .ge 21, 3) := by decide +kernel
theorem dX2_chanceOfFew_127 : decode cX2_chanceOfFew 127 = .ok (.lload 5, 2) := by decide +kernel
theorem dX2_chanceOfFew_129 : decode cX2_chanceOfFew 129 = .ok (.aload_n 0, 1) := by decide +kernel
theorem dX2_chanceOfFew_130 : decode cX2_chanceOfFew 130 = .ok (.getfield 32, 3) := by decide +kernel
theorem dX2_chanceOfFew_133 : decode cX2_chanceOfFew 133 = .ok (.iload 7, 2) := by decide +kernel
theorem dX2_chanceOfFew_135 : decode cX2_chanceOfFew 135 = .ok (.laload, 1) := by decide +kernel
theorem dX2_chanceOfFew_136 : decode cX2_chanceOfFew 136 = .ok (.ladd, 1) := by decide +kernel
theorem dX2_chanceOfFew_137 : decode cX2_chanceOfFew 137 = .ok (.lstore 5, 2) := by decide +kernel
theorem dX2_chanceOfFew_139 : decode cX2_chanceOfFew 139 = .ok (.iinc 7 1, 3) := by decide +kernel
theorem dX2_chanceOfFew_142 : decode cX2_chanceOfFew 142 = .ok (.goto (-22), 3) := by decide +kernel
theorem dX2_chanceOfFew_145 : decode cX2_chanceOfFew 145 = .ok (.lload 5, 2) := by decide +kernel
theorem dX2_chanceOfFew_147 : decode cX2_chanceOfFew 147 = .ok (.lreturn, 1) := by decide +kernel
theorem dX3_init_0 : decode cX3_init 0 = .ok (.aload_n 0, 1) := by decide +kernel
theorem dX3_init_1 : decode cX3_init 1 = .ok (.invokespecial 3, 3) := by decide +kernel
theorem dX3_init_4 : decode cX3_init 4 = .ok (.aload_n 0, 1) := by decide +kernel
theorem dX3_init_5 : decode cX3_init 5 = .ok (.bipush 10, 2) := by decide +kernel
theorem dX3_init_7 : decode cX3_init 7 = .ok (.newarray .int, 2) := by decide +kernel
theorem dX3_init_9 : decode cX3_init 9 = .ok (.putfield 9, 3) := by decide +kernel
theorem dX3_init_12 : decode cX3_init 12 = .ok (.aload_n 0, 1) := by decide +kernel
theorem dX3_init_13 : decode cX3_init 13 = .ok (.bipush 10, 2) := by decide +kernel
theorem dX3_init_15 : decode cX3_init 15 = .ok (.newarray .int, 2) := by decide +kernel
theorem dX3_init_17 : decode cX3_init 17 = .ok (.putfield 15, 3) := by decide +kernel
theorem dX3_init_20 : decode cX3_init 20 = .ok (.aload_n 0, 1) := by decide +kernel
theorem dX3_init_21 : decode cX3_init 21 = .ok (.bipush 100, 2) := by decide +kernel
theorem dX3_init_23 : decode cX3_init 23 = .ok (.newarray .int, 2) := by decide +kernel
theorem dX3_init_25 : decode cX3_init 25 = .ok (.putfield 18, 3) := by decide +kernel
theorem dX3_init_28 : decode cX3_init 28 = .ok (.aload_n 0, 1) := by decide +kernel
theorem dX3_init_29 : decode cX3_init 29 = .ok (.iconst 0, 1) := by decide +kernel
theorem dX3_init_30 : decode cX3_init 30 = .ok (.putfield 21, 3) := by decide +kernel
theorem dX3_init_33 : decode cX3_init 33 = .ok (.return_, 1) := by decide +kernel
theorem dX3_canBeLong_0 : decode cX3_canBeLong 0 = .ok (.iload_n 0, 1) := by decide +kernel
theorem dX3_canBeLong_1 : decode cX3_canBeLong 1 = .ok (.ifCond .lt 13, 3) := by decide +kernel
theorem dX3_canBeLong_4 : decode cX3_canBeLong 4 = .ok (.iload_n 0, 1) := by decide +kernel
theorem dX3_canBeLong_5 : decode cX3_canBeLong 5 = .ok (.bipush 9, 2) := by decide +kernel
theorem dX3_canBeLong_7 : decode cX3_canBeLong 7 = .ok (.if_icmp .gt 7, 3) := by decide +kernel
theorem dX3_canBeLong_10 : decode cX3_canBeLong 10 = .ok (.iconst 1, 1) := by decide +kernel
theorem dX3_canBeLong_11 : decode cX3_canBeLong 11 = .ok (.goto 4, 3) := by decide +kernel
theorem dX3_canBeLong_14 : decode cX3_canBeLong 14 = .ok (.iconst 0, 1) := by decide +kernel
theorem dX3_canBeLong_15 : decode cX3_canBeLong 15 = .ok (.ireturn, 1) := by decide +kernel
theorem dX3_isOne_0 : decode cX3_isOne 0 = .ok (.iload_n 1, 1) := by decide +kernel
theorem dX3_isOne_1 : decode cX3_isOne 1 = .ok (.ifCond .lt 21, 3) := by decide +kernel
theorem dX3_isOne_4 : decode cX3_isOne 4 = .ok (.iload_n 1, 1) := by decide +kernel
theorem dX3_isOne_5 : decode cX3_isOne 5 = .ok (.aload_n 0, 1) := by decide +kernel
theorem dX3_isOne_6 : decode cX3_isOne 6 = .ok (.getfield 21, 3) := by decide +kernel
theorem dX3_isOne_9 : decode cX3_isOne 9 = .ok (.if_icmp .ge 13, 3) := by decide +kernel
theorem dX3_isOne_12 : decode cX3_isOne 12 = .ok (.iload_n 1, 1) := by decide +kernel
theorem dX3_isOne_13 : decode cX3_isOne 13 = .ok (.bipush 10, 2) := by decide +kernel
theorem dX3_isOne_15 : decode cX3_isOne 15 = .ok (.if_icmp .ge 7, 3) := by decide +kernel
theorem dX3_isOne_18 : decode cX3_isOne 18 = .ok (.iconst 1, 1) := by decide +kernel
theorem dX3_isOne_19 : decode cX3_isOne 19 = .ok (.goto 4, 3) := by decide +kernel
theorem dX3_isOne_22 : decode cX3_isOne 22 = .ok (.iconst 0, 1) := by decide +kernel
theorem dX3_isOne_23 : decode cX3_isOne 23 = .ok (.ireturn, 1) := by decide +kernel
theorem dX3_roomOf_0 : decode cX3_roomOf 0 = .ok (.aload_n 0, 1) := by decide +kernel
theorem dX3_roomOf_1 : decode cX3_roomOf 1 = .ok (.iload_n 1, 1) := by decide +kernel
theorem dX3_roomOf_2 : decode cX3_roomOf 2 = .ok (.invokevirtual 25, 3) := by decide +kernel
theorem dX3_roomOf_5 : decode cX3_roomOf 5 = .ok (.ifCond .eq 12, 3) := by decide +kernel
theorem dX3_roomOf_8 : decode cX3_roomOf 8 = .ok (.aload_n 0, 1) := by decide +kernel
theorem dX3_roomOf_9 : decode cX3_roomOf 9 = .ok (.getfield 9, 3) := by decide +kernel
theorem dX3_roomOf_12 : decode cX3_roomOf 12 = .ok (.iload_n 1, 1) := by decide +kernel
theorem dX3_roomOf_13 : decode cX3_roomOf 13 = .ok (.iaload, 1) := by decide +kernel
theorem dX3_roomOf_14 : decode cX3_roomOf 14 = .ok (.goto 4, 3) := by decide +kernel
theorem dX3_roomOf_17 : decode cX3_roomOf 17 = .ok (.iconst (-1), 1) := by decide +kernel
theorem dX3_roomOf_18 : decode cX3_roomOf 18 = .ok (.ireturn, 1) := by decide +kernel
theorem dX3_highOf_0 : decode cX3_highOf 0 = .ok (.aload_n 0, 1) := by decide +kernel
theorem dX3_highOf_1 : decode cX3_highOf 1 = .ok (.iload_n 1, 1) := by decide +kernel
theorem dX3_highOf_2 : decode cX3_highOf 2 = .ok (.invokevirtual 25, 3) := by decide +kernel
theorem dX3_highOf_5 : decode cX3_highOf 5 = .ok (.ifCond .eq 12, 3) := by decide +kernel
theorem dX3_highOf_8 : decode cX3_highOf 8 = .ok (.aload_n 0, 1) := by decide +kernel
theorem dX3_highOf_9 : decode cX3_highOf 9 = .ok (.getfield 15, 3) := by decide +kernel
theorem dX3_highOf_12 : decode cX3_highOf 12 = .ok (.iload_n 1, 1) := by decide +kernel
theorem dX3_highOf_13 : decode cX3_highOf 13 = .ok (.iaload, 1) := by decide +kernel
theorem dX3_highOf_14 : decode cX3_highOf 14 = .ok (.goto 4, 3) := by decide +kernel
theorem dX3_highOf_17 : decode cX3_highOf 17 = .ok (.iconst (-1), 1) := by decide +kernel
theorem dX3_highOf_18 : decode cX3_highOf 18 = .ok (.ireturn, 1) := by decide +kernel
theorem dX3_all_0 : decode cX3_all 0 = .ok (.iconst 1, 1) := by decide +kernel
theorem dX3_all_1 : decode cX3_all 1 = .ok (.aload_n 0, 1) := by decide +kernel
theorem dX3_all_2 : decode cX3_all 2 = .ok (.getfield 21, 3) := by decide +kernel
theorem dX3_all_5 : decode cX3_all 5 = .ok (.ishl, 1) := by decide +kernel
theorem dX3_all_6 : decode cX3_all 6 = .ok (.iconst 1, 1) := by decide +kernel
theorem dX3_all_7 : decode cX3_all 7 = .ok (.isub, 1) := by decide +kernel
theorem dX3_all_8 : decode cX3_all 8 = .ok (.ireturn, 1) := by decide +kernel
theorem dX3_add_0 : decode cX3_add 0 = .ok (.aload_n 0, 1) := by decide +kernel
theorem dX3_add_1 : decode cX3_add 1 = .ok (.getfield 21, 3) := by decide +kernel
theorem dX3_add_4 : decode cX3_add 4 = .ok (.ifCond .lt 12, 3) := by decide +kernel
theorem dX3_add_7 : decode cX3_add 7 = .ok (.aload_n 0, 1) := by decide +kernel
theorem dX3_add_8 : decode cX3_add 8 = .ok (.getfield 21, 3) := by decide +kernel
theorem dX3_add_11 : decode cX3_add 11 = .ok (.bipush 10, 2) := by decide +kernel
theorem dX3_add_13 : decode cX3_add 13 = .ok (.if_icmp .lt 5, 3) := by decide +kernel
theorem dX3_add_16 : decode cX3_add 16 = .ok (.iconst (-1), 1) := by decide +kernel
theorem dX3_add_17 : decode cX3_add 17 = .ok (.ireturn, 1) := by decide +kernel
theorem dX3_add_18 : decode cX3_add 18 = .ok (.aload_n 0, 1) := by decide +kernel
theorem dX3_add_19 : decode cX3_add 19 = .ok (.getfield 9, 3) := by decide +kernel
theorem dX3_add_22 : decode cX3_add 22 = .ok (.aload_n 0, 1) := by decide +kernel
theorem dX3_add_23 : decode cX3_add 23 = .ok (.getfield 21, 3) := by decide +kernel
theorem dX3_add_26 : decode cX3_add 26 = .ok (.iload_n 1, 1) := by decide +kernel
theorem dX3_add_27 : decode cX3_add 27 = .ok (.iastore, 1) := by decide +kernel
theorem dX3_add_28 : decode cX3_add 28 = .ok (.aload_n 0, 1) := by decide +kernel
theorem dX3_add_29 : decode cX3_add 29 = .ok (.getfield 15, 3) := by decide +kernel
theorem dX3_add_32 : decode cX3_add 32 = .ok (.aload_n 0, 1) := by decide +kernel
theorem dX3_add_33 : decode cX3_add 33 = .ok (.getfield 21, 3) := by decide +kernel
theorem dX3_add_36 : decode cX3_add 36 = .ok (.iload_n 2, 1) := by decide +kernel
theorem dX3_add_37 : decode cX3_add 37 = .ok (.iastore, 1) := by decide +kernel
theorem dX3_add_38 : decode cX3_add 38 = .ok (.aload_n 0, 1) := by decide +kernel
theorem dX3_add_39 : decode cX3_add 39 = .ok (.dup, 1) := by decide +kernel
theorem dX3_add_40 : decode cX3_add 40 = .ok (.getfield 21, 3) := by decide +kernel
theorem dX3_add_43 : decode cX3_add 43 = .ok (.dup_x1, 1) := by decide +kernel
theorem dX3_add_44 : decode cX3_add 44 = .ok (.iconst 1, 1) := by decide +kernel
theorem dX3_add_45 : decode cX3_add 45 = .ok (.iadd, 1) := by decide +kernel
theorem dX3_add_46 : decode cX3_add 46 = .ok (.putfield 21, 3) := by decide +kernel
theorem dX3_add_49 : decode cX3_add 49 = .ok (.ireturn, 1) := by decide +kernel
theorem dX3_between_0 : decode cX3_between 0 = .ok (.aload_n 0, 1) := by decide +kernel
theorem dX3_between_1 : decode cX3_between 1 = .ok (.iload_n 1, 1) := by decide +kernel
theorem dX3_between_2 : decode cX3_between 2 = .ok (.invokevirtual 25, 3) := by decide +kernel
theorem dX3_between_5 : decode cX3_between 5 = .ok (.ifCond .eq 25, 3) := by decide +kernel
theorem dX3_between_8 : decode cX3_between 8 = .ok (.aload_n 0, 1) := by decide +kernel
theorem dX3_between_9 : decode cX3_between 9 = .ok (.iload_n 2, 1) := by decide +kernel
theorem dX3_between_10 : decode cX3_between 10 = .ok (.invokevirtual 25, 3) := by decide +kernel
theorem dX3_between_13 : decode cX3_between 13 = .ok (.ifCond .eq 17, 3) := by decide +kernel
theorem dX3_between_16 : decode cX3_between 16 = .ok (.aload_n 0, 1) := by decide +kernel
theorem dX3_between_17 : decode cX3_between 17 = .ok (.getfield 18, 3) := by decide +kernel
theorem dX3_between_20 : decode cX3_between 20 = .ok (.iload_n 1, 1) := by decide +kernel
theorem dX3_between_21 : decode cX3_between 21 = .ok (.bipush 10, 2) := by decide +kernel
theorem dX3_between_23 : decode cX3_between 23 = .ok (.imul, 1) := by decide +kernel
theorem dX3_between_24 : decode cX3_between 24 = .ok (.iload_n 2, 1) := by decide +kernel
theorem dX3_between_25 : decode cX3_between 25 = .ok (.iadd, 1) := by decide +kernel
theorem dX3_between_26 : decode cX3_between 26 = .ok (.iaload, 1) := by decide +kernel
theorem dX3_between_27 : decode cX3_between 27 = .ok (.goto 4, 3) := by decide +kernel
theorem dX3_between_30 : decode cX3_between 30 = .ok (.iconst 0, 1) := by decide +kernel
theorem dX3_between_31 : decode cX3_between 31 = .ok (.ireturn, 1) := by decide +kernel
theorem dX3_join_0 : decode cX3_join 0 = .ok (.aload_n 0, 1) := by decide +kernel
theorem dX3_join_1 : decode cX3_join 1 = .ok (.iload_n 1, 1) := by decide +kernel
theorem dX3_join_2 : decode cX3_join 2 = .ok (.invokevirtual 25, 3) := by decide +kernel
theorem dX3_join_5 : decode cX3_join 5 = .ok (.ifCond .eq 35, 3) := by decide +kernel
theorem dX3_join_8 : decode cX3_join 8 = .ok (.aload_n 0, 1) := by decide +kernel
theorem dX3_join_9 : decode cX3_join 9 = .ok (.iload_n 2, 1) := by decide +kernel
theorem dX3_join_10 : decode cX3_join 10 = .ok (.invokevirtual 25, 3) := by decide +kernel
theorem dX3_join_13 : decode cX3_join 13 = .ok (.ifCond .eq 27, 3) := by decide +kernel
theorem dX3_join_16 : decode cX3_join 16 = .ok (.aload_n 0, 1) := by decide +kernel
theorem dX3_join_17 : decode cX3_join 17 = .ok (.getfield 18, 3) := by decide +kernel
theorem dX3_join_20 : decode cX3_join 20 = .ok (.iload_n 1, 1) := by decide +kernel
theorem dX3_join_21 : decode cX3_join 21 = .ok (.bipush 10, 2) := by decide +kernel
theorem dX3_join_23 : decode cX3_join 23 = .ok (.imul, 1) := by decide +kernel
theorem dX3_join_24 : decode cX3_join 24 = .ok (.iload_n 2, 1) := by decide +kernel
theorem dX3_join_25 : decode cX3_join 25 = .ok (.iadd, 1) := by decide +kernel
theorem dX3_join_26 : decode cX3_join 26 = .ok (.iload_n 3, 1) := by decide +kernel
theorem dX3_join_27 : decode cX3_join 27 = .ok (.iastore, 1) := by decide +kernel
theorem dX3_join_28 : decode cX3_join 28 = .ok (.aload_n 0, 1) := by decide +kernel
theorem dX3_join_29 : decode cX3_join 29 = .ok (.getfield 18, 3) := by decide +kernel
theorem dX3_join_32 : decode cX3_join 32 = .ok (.iload_n 2, 1) := by decide +kernel
theorem dX3_join_33 : decode cX3_join 33 = .ok (.bipush 10, 2) := by decide +kernel
theorem dX3_join_35 : decode cX3_join 35 = .ok (.imul, 1) := by decide +kernel
theorem dX3_join_36 : decode cX3_join 36 = .ok (.iload_n 1, 1) := by decide +kernel
theorem dX3_join_37 : decode cX3_join 37 = .ok (.iadd, 1) := by decide +kernel
theorem dX3_join_38 : decode cX3_join 38 = .ok (.iload_n 3, 1) := by decide +kernel
theorem dX3_join_39 : decode cX3_join 39 = .ok (.iastore, 1) := by decide +kernel
theorem dX3_join_40 : decode cX3_join 40 = .ok (.return_, 1) := by decide +kernel
theorem dX3_copyFrom_0 : decode cX3_copyFrom 0 = .ok (.aload_n 1, 1) := by decide +kernel
theorem dX3_copyFrom_1 : decode cX3_copyFrom 1 = .ok (.getfield 9, 3) := by decide +kernel
theorem dX3_copyFrom_4 : decode cX3_copyFrom 4 = .ok (.aload_n 0, 1) := by decide +kernel
theorem dX3_copyFrom_5 : decode cX3_copyFrom 5 = .ok (.getfield 9, 3) := by decide +kernel
theorem dX3_copyFrom_8 : decode cX3_copyFrom 8 = .ok (.invokestatic 29, 3) := by decide +kernel
theorem dX3_copyFrom_11 : decode cX3_copyFrom 11 = .ok (.aload_n 1, 1) := by decide +kernel
theorem dX3_copyFrom_12 : decode cX3_copyFrom 12 = .ok (.getfield 15, 3) := by decide +kernel
theorem dX3_copyFrom_15 : decode cX3_copyFrom 15 = .ok (.aload_n 0, 1) := by decide +kernel
theorem dX3_copyFrom_16 : decode cX3_copyFrom 16 = .ok (.getfield 15, 3) := by decide +kernel
theorem dX3_copyFrom_19 : decode cX3_copyFrom 19 = .ok (.invokestatic 29, 3) := by decide +kernel
theorem dX3_copyFrom_22 : decode cX3_copyFrom 22 = .ok (.aload_n 1, 1) := by decide +kernel
theorem dX3_copyFrom_23 : decode cX3_copyFrom 23 = .ok (.getfield 18, 3) := by decide +kernel
theorem dX3_copyFrom_26 : decode cX3_copyFrom 26 = .ok (.aload_n 0, 1) := by decide +kernel
theorem dX3_copyFrom_27 : decode cX3_copyFrom 27 = .ok (.getfield 18, 3) := by decide +kernel
theorem dX3_copyFrom_30 : decode cX3_copyFrom 30 = .ok (.invokestatic 29, 3) := by decide +kernel
theorem dX3_copyFrom_33 : decode cX3_copyFrom 33 = .ok (.aload_n 0, 1) := by decide +kernel
theorem dX3_copyFrom_34 : decode cX3_copyFrom 34 = .ok (.aload_n 1, 1) := by decide +kernel
theorem dX3_copyFrom_35 : decode cX3_copyFrom 35 = .ok (.getfield 21, 3) := by decide +kernel
theorem dX3_copyFrom_38 : decode cX3_copyFrom 38 = .ok (.putfield 21, 3) := by decide +kernel
theorem dX3_copyFrom_41 : decode cX3_copyFrom 41 = .ok (.return_, 1) := by decide +kernel
theorem dX4_init_0 : decode cX4_init 0 = .ok (.aload_n 0, 1) := by decide +kernel
theorem dX4_init_1 : decode cX4_init 1 = .ok (.invokespecial 3, 3) := by decide +kernel
theorem dX4_init_4 : decode cX4_init 4 = .ok (.aload_n 0, 1) := by decide +kernel
theorem dX4_init_5 : decode cX4_init 5 = .ok (.sipush 401, 3) := by decide +kernel
theorem dX4_init_8 : decode cX4_init 8 = .ok (.newarray .int, 2) := by decide +kernel
theorem dX4_init_10 : decode cX4_init 10 = .ok (.putfield 9, 3) := by decide +kernel
theorem dX4_init_13 : decode cX4_init 13 = .ok (.aload_n 0, 1) := by decide +kernel
theorem dX4_init_14 : decode cX4_init 14 = .ok (.sipush 401, 3) := by decide +kernel
theorem dX4_init_17 : decode cX4_init 17 = .ok (.newarray .int, 2) := by decide +kernel
theorem dX4_init_19 : decode cX4_init 19 = .ok (.putfield 15, 3) := by decide +kernel
theorem dX4_init_22 : decode cX4_init 22 = .ok (.aload_n 0, 1) := by decide +kernel
theorem dX4_init_23 : decode cX4_init 23 = .ok (.sipush 401, 3) := by decide +kernel
theorem dX4_init_26 : decode cX4_init 26 = .ok (.newarray .int, 2) := by decide +kernel
theorem dX4_init_28 : decode cX4_init 28 = .ok (.putfield 18, 3) := by decide +kernel
theorem dX4_init_31 : decode cX4_init 31 = .ok (.aload_n 0, 1) := by decide +kernel
theorem dX4_init_32 : decode cX4_init 32 = .ok (.sipush 600, 3) := by decide +kernel
theorem dX4_init_35 : decode cX4_init 35 = .ok (.newarray .int, 2) := by decide +kernel
theorem dX4_init_37 : decode cX4_init 37 = .ok (.putfield 21, 3) := by decide +kernel
theorem dX4_init_40 : decode cX4_init 40 = .ok (.aload_n 0, 1) := by decide +kernel
theorem dX4_init_41 : decode cX4_init 41 = .ok (.bipush 72, 2) := by decide +kernel
theorem dX4_init_43 : decode cX4_init 43 = .ok (.newarray .int, 2) := by decide +kernel
theorem dX4_init_45 : decode cX4_init 45 = .ok (.putfield 24, 3) := by decide +kernel
theorem dX4_init_48 : decode cX4_init 48 = .ok (.aload_n 0, 1) := by decide +kernel
theorem dX4_init_49 : decode cX4_init 49 = .ok (.iconst (-1), 1) := by decide +kernel
theorem dX4_init_50 : decode cX4_init 50 = .ok (.putfield 27, 3) := by decide +kernel
theorem dX4_init_53 : decode cX4_init 53 = .ok (.return_, 1) := by decide +kernel
theorem dX4_read_0 : decode cX4_read 0 = .ok (.aload_n 0, 1) := by decide +kernel
theorem dX4_read_1 : decode cX4_read 1 = .ok (.iload_n 3, 1) := by decide +kernel
theorem dX4_read_2 : decode cX4_read 2 = .ok (.putfield 31, 3) := by decide +kernel
theorem dX4_read_5 : decode cX4_read 5 = .ok (.aload_n 0, 1) := by decide +kernel
theorem dX4_read_6 : decode cX4_read 6 = .ok (.iconst 0, 1) := by decide +kernel
theorem dX4_read_7 : decode cX4_read 7 = .ok (.putfield 35, 3) := by decide +kernel
theorem dX4_read_10 : decode cX4_read 10 = .ok (.aload_n 0, 1) := by decide +kernel
theorem dX4_read_11 : decode cX4_read 11 = .ok (.iconst 0, 1) := by decide +kernel
theorem dX4_read_12 : decode cX4_read 12 = .ok (.putfield 38, 3) := by decide +kernel
theorem dX4_read_15 : decode cX4_read 15 = .ok (.aload_n 0, 1) := by decide +kernel
theorem dX4_read_16 : decode cX4_read 16 = .ok (.iconst 0, 1) := by decide +kernel
theorem dX4_read_17 : decode cX4_read 17 = .ok (.putfield 41, 3) := by decide +kernel
theorem dX4_read_20 : decode cX4_read 20 = .ok (.aload_n 0, 1) := by decide +kernel
theorem dX4_read_21 : decode cX4_read 21 = .ok (.iconst 0, 1) := by decide +kernel
theorem dX4_read_22 : decode cX4_read 22 = .ok (.putfield 44, 3) := by decide +kernel
theorem dX4_read_25 : decode cX4_read 25 = .ok (.aload_n 0, 1) := by decide +kernel
theorem dX4_read_26 : decode cX4_read 26 = .ok (.iconst (-1), 1) := by decide +kernel
theorem dX4_read_27 : decode cX4_read 27 = .ok (.putfield 27, 3) := by decide +kernel
theorem dX4_read_30 : decode cX4_read 30 = .ok (.aload_n 0, 1) := by decide +kernel
theorem dX4_read_31 : decode cX4_read 31 = .ok (.aload_n 1, 1) := by decide +kernel
theorem dX4_read_32 : decode cX4_read 32 = .ok (.iload_n 2, 1) := by decide +kernel
theorem dX4_read_33 : decode cX4_read 33 = .ok (.invokevirtual 47, 3) := by decide +kernel
theorem dX4_read_36 : decode cX4_read 36 = .ok (.iconst 0, 1) := by decide +kernel
theorem dX4_read_37 : decode cX4_read 37 = .ok (.istore 4, 2) := by decide +kernel
theorem dX4_read_39 : decode cX4_read 39 = .ok (.iload 4, 2) := by decide +kernel
theorem dX4_read_41 : decode cX4_read 41 = .ok (.bipush 12, 2) := by decide +kernel
theorem dX4_read_43 : decode cX4_read 43 = .ok (.if_icmp .ge 76, 3) := by decide +kernel
theorem dX4_read_46 : decode cX4_read 46 = .ok (.aload_n 0, 1) := by decide +kernel
theorem dX4_read_47 : decode cX4_read 47 = .ok (.invokevirtual 51, 3) := by decide +kernel
theorem dX4_read_50 : decode cX4_read 50 = .ok (.ifCond .ne 5, 3) := by decide +kernel
theorem dX4_read_53 : decode cX4_read 53 = .ok (.aconst_null, 1) := by decide +kernel
theorem dX4_read_54 : decode cX4_read 54 = .ok (.areturn, 1) := by decide +kernel
theorem dX4_read_55 : decode cX4_read 55 = .ok (.aload_n 0, 1) := by decide +kernel
theorem dX4_read_56 : decode cX4_read 56 = .ok (.invokevirtual 55, 3) := by decide +kernel
theorem dX4_read_59 : decode cX4_read 59 = .ok (.sipush 258, 3) := by decide +kernel
theorem dX4_read_62 : decode cX4_read 62 = .ok (.if_icmp .ne 40, 3) := by decide +kernel
theorem dX4_read_65 : decode cX4_read 65 = .ok (.new 59, 3) := by decide +kernel
theorem dX4_read_68 : decode cX4_read 68 = .ok (.dup, 1) := by decide +kernel
theorem dX4_read_69 : decode cX4_read 69 = .ok (.aload_n 0, 1) := by decide +kernel
theorem dX4_read_70 : decode cX4_read 70 = .ok (.getfield 21, 3) := by decide +kernel
theorem dX4_read_73 : decode cX4_read 73 = .ok (.aload_n 0, 1) := by decide +kernel
theorem dX4_read_74 : decode cX4_read 74 = .ok (.getfield 38, 3) := by decide +kernel
theorem dX4_read_77 : decode cX4_read 77 = .ok (.invokestatic 61, 3) := by decide +kernel
theorem dX4_read_80 : decode cX4_read 80 = .ok (.aload_n 0, 1) := by decide +kernel
theorem dX4_read_81 : decode cX4_read 81 = .ok (.getfield 24, 3) := by decide +kernel
theorem dX4_read_84 : decode cX4_read 84 = .ok (.aload_n 0, 1) := by decide +kernel
theorem dX4_read_85 : decode cX4_read 85 = .ok (.getfield 41, 3) := by decide +kernel
theorem dX4_read_88 : decode cX4_read 88 = .ok (.bipush 6, 2) := by decide +kernel
theorem dX4_read_90 : decode cX4_read 90 = .ok (.imul, 1) := by decide +kernel
theorem dX4_read_91 : decode cX4_read 91 = .ok (.invokestatic 61, 3) := by decide +kernel
theorem dX4_read_94 : decode cX4_read 94 = .ok (.aload_n 0, 1) := by decide +kernel
theorem dX4_read_95 : decode cX4_read 95 = .ok (.getfield 41, 3) := by decide +kernel
theorem dX4_read_98 : decode cX4_read 98 = .ok (.invokespecial 67, 3) := by decide +kernel
theorem dX4_read_101 : decode cX4_read 101 = .ok (.areturn, 1) := by decide +kernel
theorem dX4_read_102 : decode cX4_read 102 = .ok (.aload_n 0, 1) := by decide +kernel
theorem dX4_read_103 : decode cX4_read 103 = .ok (.bipush 59, 2) := by decide +kernel
theorem dX4_read_105 : decode cX4_read 105 = .ok (.invokevirtual 70, 3) := by decide +kernel
theorem dX4_read_108 : decode cX4_read 108 = .ok (.ifCond .ne 5, 3) := by decide +kernel
theorem dX4_read_111 : decode cX4_read 111 = .ok (.aconst_null, 1) := by decide +kernel
theorem dX4_read_112 : decode cX4_read 112 = .ok (.areturn, 1) := by decide +kernel
theorem dX4_read_113 : decode cX4_read 113 = .ok (.iinc 4 1, 3) := by decide +kernel
theorem dX4_read_116 : decode cX4_read 116 = .ok (.goto (-77), 3) := by decide +kernel
theorem dX4_read_119 : decode cX4_read 119 = .ok (.aload_n 0, 1) := by decide +kernel
theorem dX4_read_120 : decode cX4_read 120 = .ok (.invokevirtual 74, 3) := by decide +kernel
theorem dX4_read_123 : decode cX4_read 123 = .ok (.pop, 1) := by decide +kernel
theorem dX4_read_124 : decode cX4_read 124 = .ok (.aconst_null, 1) := by decide +kernel
theorem dX4_read_125 : decode cX4_read 125 = .ok (.areturn, 1) := by decide +kernel
theorem dX4_cutIntoTokens_0 : decode cX4_cutIntoTokens 0 = .ok (.aload_n 0, 1) := by decide +kernel
theorem dX4_cutIntoTokens_1 : decode cX4_cutIntoTokens 1 = .ok (.iconst 0, 1) := by decide +kernel
theorem dX4_cutIntoTokens_2 : decode cX4_cutIntoTokens 2 = .ok (.putfield 77, 3) := by decide +kernel
theorem dX4_cutIntoTokens_5 : decode cX4_cutIntoTokens 5 = .ok (.iconst 0, 1) := by decide +kernel
theorem dX4_cutIntoTokens_6 : decode cX4_cutIntoTokens 6 = .ok (.istore_n 3, 1) := by decide +kernel
theorem dX4_cutIntoTokens_7 : decode cX4_cutIntoTokens 7 = .ok (.iload_n 3, 1) := by decide +kernel
theorem dX4_cutIntoTokens_8 : decode cX4_cutIntoTokens 8 = .ok (.iload_n 2, 1) := by decide +kernel
theorem dX4_cutIntoTokens_9 : decode cX4_cutIntoTokens 9 = .ok (.if_icmp .ge 95, 3) := by decide +kernel
theorem dX4_cutIntoTokens_12 : decode cX4_cutIntoTokens 12 = .ok (.aload_n 1, 1) := by decide +kernel
theorem dX4_cutIntoTokens_13 : decode cX4_cutIntoTokens 13 = .ok (.iload_n 3, 1) := by decide +kernel
theorem dX4_cutIntoTokens_14 : decode cX4_cutIntoTokens 14 = .ok (.invokevirtual 80, 3) := by decide +kernel
theorem dX4_cutIntoTokens_17 : decode cX4_cutIntoTokens 17 = .ok (.istore 4, 2) := by decide +kernel
theorem dX4_cutIntoTokens_19 : decode cX4_cutIntoTokens 19 = .ok (.aload_n 1, 1) := by decide +kernel
theorem dX4_cutIntoTokens_20 : decode cX4_cutIntoTokens 20 = .ok (.iload_n 3, 1) := by decide +kernel
theorem dX4_cutIntoTokens_21 : decode cX4_cutIntoTokens 21 = .ok (.iload_n 2, 1) := by decide +kernel
theorem dX4_cutIntoTokens_22 : decode cX4_cutIntoTokens 22 = .ok (.invokestatic 86, 3) := by decide +kernel
theorem dX4_cutIntoTokens_25 : decode cX4_cutIntoTokens 25 = .ok (.istore 5, 2) := by decide +kernel
theorem dX4_cutIntoTokens_27 : decode cX4_cutIntoTokens 27 = .ok (.iload 4, 2) := by decide +kernel
theorem dX4_cutIntoTokens_29 : decode cX4_cutIntoTokens 29 = .ok (.invokestatic 90, 3) := by decide +kernel
theorem dX4_cutIntoTokens_32 : decode cX4_cutIntoTokens 32 = .ok (.ifCond .eq 19, 3) := by decide +kernel
theorem dX4_cutIntoTokens_35 : decode cX4_cutIntoTokens 35 = .ok (.aload_n 0, 1) := by decide +kernel
theorem dX4_cutIntoTokens_36 : decode cX4_cutIntoTokens 36 = .ok (.aload_n 1, 1) := by decide +kernel
theorem dX4_cutIntoTokens_37 : decode cX4_cutIntoTokens 37 = .ok (.iload_n 3, 1) := by decide +kernel
theorem dX4_cutIntoTokens_38 : decode cX4_cutIntoTokens 38 = .ok (.iload 5, 2) := by decide +kernel
theorem dX4_cutIntoTokens_40 : decode cX4_cutIntoTokens 40 = .ok (.invokestatic 93, 3) := by decide +kernel
theorem dX4_cutIntoTokens_43 : decode cX4_cutIntoTokens 43 = .ok (.iload_n 3, 1) := by decide +kernel
theorem dX4_cutIntoTokens_44 : decode cX4_cutIntoTokens 44 = .ok (.iconst 0, 1) := by decide +kernel
theorem dX4_cutIntoTokens_45 : decode cX4_cutIntoTokens 45 = .ok (.invokevirtual 96, 3) := by decide +kernel
theorem dX4_cutIntoTokens_48 : decode cX4_cutIntoTokens 48 = .ok (.goto 44, 3) := by decide +kernel
theorem dX4_cutIntoTokens_51 : decode cX4_cutIntoTokens 51 = .ok (.iload 4, 2) := by decide +kernel
theorem dX4_cutIntoTokens_53 : decode cX4_cutIntoTokens 53 = .ok (.invokestatic 100, 3) := by decide +kernel
theorem dX4_cutIntoTokens_56 : decode cX4_cutIntoTokens 56 = .ok (.ifCond .eq 21, 3) := by decide +kernel
theorem dX4_cutIntoTokens_59 : decode cX4_cutIntoTokens 59 = .ok (.aload_n 0, 1) := by decide +kernel
theorem dX4_cutIntoTokens_60 : decode cX4_cutIntoTokens 60 = .ok (.sipush 256, 3) := by decide +kernel
theorem dX4_cutIntoTokens_63 : decode cX4_cutIntoTokens 63 = .ok (.iload_n 3, 1) := by decide +kernel
theorem dX4_cutIntoTokens_64 : decode cX4_cutIntoTokens 64 = .ok (.aload_n 1, 1) := by decide +kernel
theorem dX4_cutIntoTokens_65 : decode cX4_cutIntoTokens 65 = .ok (.iload_n 3, 1) := by decide +kernel
theorem dX4_cutIntoTokens_66 : decode cX4_cutIntoTokens 66 = .ok (.iload 5, 2) := by decide +kernel
theorem dX4_cutIntoTokens_68 : decode cX4_cutIntoTokens 68 = .ok (.invokestatic 103, 3) := by decide +kernel
theorem dX4_cutIntoTokens_71 : decode cX4_cutIntoTokens 71 = .ok (.invokevirtual 96, 3) := by decide +kernel
theorem dX4_cutIntoTokens_74 : decode cX4_cutIntoTokens 74 = .ok (.goto 18, 3) := by decide +kernel
theorem dX4_cutIntoTokens_77 : decode cX4_cutIntoTokens 77 = .ok (.iload 4, 2) := by decide +kernel
theorem dX4_cutIntoTokens_79 : decode cX4_cutIntoTokens 79 = .ok (.bipush 32, 2) := by decide +kernel
theorem dX4_cutIntoTokens_81 : decode cX4_cutIntoTokens 81 = .ok (.if_icmp .eq 11, 3) := by decide +kernel
theorem dX4_cutIntoTokens_84 : decode cX4_cutIntoTokens 84 = .ok (.aload_n 0, 1) := by decide +kernel
theorem dX4_cutIntoTokens_85 : decode cX4_cutIntoTokens 85 = .ok (.iload 4, 2) := by decide +kernel
theorem dX4_cutIntoTokens_87 : decode cX4_cutIntoTokens 87 = .ok (.iload_n 3, 1) := by decide +kernel
theorem dX4_cutIntoTokens_88 : decode cX4_cutIntoTokens 88 = .ok (.iconst 0, 1) := by decide +kernel
theorem dX4_cutIntoTokens_89 : decode cX4_cutIntoTokens 89 = .ok (.invokevirtual 96, 3) := by decide +kernel
theorem dX4_cutIntoTokens_92 : decode cX4_cutIntoTokens 92 = .ok (.iload_n 3, 1) := by decide +kernel
theorem dX4_cutIntoTokens_93 : decode cX4_cutIntoTokens 93 = .ok (.iconst 1, 1) := by decide +kernel
theorem dX4_cutIntoTokens_94 : decode cX4_cutIntoTokens 94 = .ok (.iadd, 1) := by decide +kernel
theorem dX4_cutIntoTokens_95 : decode cX4_cutIntoTokens 95 = .ok (.iload 5, 2) := by decide +kernel
theorem dX4_cutIntoTokens_97 : decode cX4_cutIntoTokens 97 = .ok (.invokestatic 106, 3) := by decide +kernel
theorem dX4_cutIntoTokens_100 : decode cX4_cutIntoTokens 100 = .ok (.istore_n 3, 1) := by decide +kernel
theorem dX4_cutIntoTokens_101 : decode cX4_cutIntoTokens 101 = .ok (.goto (-94), 3) := by decide +kernel
theorem dX4_cutIntoTokens_104 : decode cX4_cutIntoTokens 104 = .ok (.aload_n 0, 1) := by decide +kernel
theorem dX4_cutIntoTokens_105 : decode cX4_cutIntoTokens 105 = .ok (.getfield 9, 3) := by decide +kernel
theorem dX4_cutIntoTokens_108 : decode cX4_cutIntoTokens 108 = .ok (.aload_n 0, 1) := by decide +kernel
theorem dX4_cutIntoTokens_109 : decode cX4_cutIntoTokens 109 = .ok (.getfield 77, 3) := by decide +kernel
theorem dX4_cutIntoTokens_112 : decode cX4_cutIntoTokens 112 = .ok (.sipush 258, 3) := by decide +kernel
theorem dX4_cutIntoTokens_115 : decode cX4_cutIntoTokens 115 = .ok (.iastore, 1) := by decide +kernel
theorem dX4_cutIntoTokens_116 : decode cX4_cutIntoTokens 116 = .ok (.aload_n 0, 1) := by decide +kernel
theorem dX4_cutIntoTokens_117 : decode cX4_cutIntoTokens 117 = .ok (.getfield 15, 3) := by decide +kernel
theorem dX4_cutIntoTokens_120 : decode cX4_cutIntoTokens 120 = .ok (.aload_n 0, 1) := by decide +kernel
theorem dX4_cutIntoTokens_121 : decode cX4_cutIntoTokens 121 = .ok (.getfield 77, 3) := by decide +kernel
theorem dX4_cutIntoTokens_124 : decode cX4_cutIntoTokens 124 = .ok (.iload_n 2, 1) := by decide +kernel
theorem dX4_cutIntoTokens_125 : decode cX4_cutIntoTokens 125 = .ok (.iastore, 1) := by decide +kernel
theorem dX4_cutIntoTokens_126 : decode cX4_cutIntoTokens 126 = .ok (.return_, 1) := by decide +kernel
theorem dX4_endOfToken_0 : decode cX4_endOfToken 0 = .ok (.aload_n 0, 1) := by decide +kernel
theorem dX4_endOfToken_1 : decode cX4_endOfToken 1 = .ok (.iload_n 1, 1) := by decide +kernel
theorem dX4_endOfToken_2 : decode cX4_endOfToken 2 = .ok (.invokevirtual 80, 3) := by decide +kernel
theorem dX4_endOfToken_5 : decode cX4_endOfToken 5 = .ok (.istore_n 3, 1) := by decide +kernel
theorem dX4_endOfToken_6 : decode cX4_endOfToken 6 = .ok (.iload_n 1, 1) := by decide +kernel
theorem dX4_endOfToken_7 : decode cX4_endOfToken 7 = .ok (.iconst 1, 1) := by decide +kernel
theorem dX4_endOfToken_8 : decode cX4_endOfToken 8 = .ok (.iadd, 1) := by decide +kernel
theorem dX4_endOfToken_9 : decode cX4_endOfToken 9 = .ok (.istore 4, 2) := by decide +kernel
theorem dX4_endOfToken_11 : decode cX4_endOfToken 11 = .ok (.iload 4, 2) := by decide +kernel
theorem dX4_endOfToken_13 : decode cX4_endOfToken 13 = .ok (.iload_n 2, 1) := by decide +kernel
theorem dX4_endOfToken_14 : decode cX4_endOfToken 14 = .ok (.if_icmp .ge 47, 3) := by decide +kernel
theorem dX4_endOfToken_17 : decode cX4_endOfToken 17 = .ok (.iload_n 3, 1) := by decide +kernel
theorem dX4_endOfToken_18 : decode cX4_endOfToken 18 = .ok (.invokestatic 90, 3) := by decide +kernel
theorem dX4_endOfToken_21 : decode cX4_endOfToken 21 = .ok (.ifCond .eq 15, 3) := by decide +kernel
theorem dX4_endOfToken_24 : decode cX4_endOfToken 24 = .ok (.aload_n 0, 1) := by decide +kernel
theorem dX4_endOfToken_25 : decode cX4_endOfToken 25 = .ok (.iload 4, 2) := by decide +kernel
theorem dX4_endOfToken_27 : decode cX4_endOfToken 27 = .ok (.invokevirtual 80, 3) := by decide +kernel
theorem dX4_endOfToken_30 : decode cX4_endOfToken 30 = .ok (.invokestatic 90, 3) := by decide +kernel
theorem dX4_endOfToken_33 : decode cX4_endOfToken 33 = .ok (.ifCond .ne 22, 3) := by decide +kernel
theorem dX4_endOfToken_36 : decode cX4_endOfToken 36 = .ok (.iload_n 3, 1) := by decide +kernel
theorem dX4_endOfToken_37 : decode cX4_endOfToken 37 = .ok (.invokestatic 100, 3) := by decide +kernel
theorem dX4_endOfToken_40 : decode cX4_endOfToken 40 = .ok (.ifCond .eq 21, 3) := by decide +kernel
theorem dX4_endOfToken_43 : decode cX4_endOfToken 43 = .ok (.aload_n 0, 1) := by decide +kernel
theorem dX4_endOfToken_44 : decode cX4_endOfToken 44 = .ok (.iload 4, 2) := by decide +kernel
theorem dX4_endOfToken_46 : decode cX4_endOfToken 46 = .ok (.invokevirtual 80, 3) := by decide +kernel
theorem dX4_endOfToken_49 : decode cX4_endOfToken 49 = .ok (.invokestatic 100, 3) := by decide +kernel
theorem dX4_endOfToken_52 : decode cX4_endOfToken 52 = .ok (.ifCond .eq 9, 3) := by decide +kernel
theorem dX4_endOfToken_55 : decode cX4_endOfToken 55 = .ok (.iinc 4 1, 3) := by decide +kernel
theorem dX4_endOfToken_58 : decode cX4_endOfToken 58 = .ok (.goto (-47), 3) := by decide +kernel
theorem dX4_endOfToken_61 : decode cX4_endOfToken 61 = .ok (.iload 4, 2) := by decide +kernel
theorem dX4_endOfToken_63 : decode cX4_endOfToken 63 = .ok (.ireturn, 1) := by decide +kernel
theorem dX4_addToken_0 : decode cX4_addToken 0 = .ok (.aload_n 0, 1) := by decide +kernel
theorem dX4_addToken_1 : decode cX4_addToken 1 = .ok (.getfield 77, 3) := by decide +kernel
theorem dX4_addToken_4 : decode cX4_addToken 4 = .ok (.sipush 400, 3) := by decide +kernel
theorem dX4_addToken_7 : decode cX4_addToken 7 = .ok (.if_icmp .ge 43, 3) := by decide +kernel
theorem dX4_addToken_10 : decode cX4_addToken 10 = .ok (.aload_n 0, 1) := by decide +kernel
theorem dX4_addToken_11 : decode cX4_addToken 11 = .ok (.getfield 9, 3) := by decide +kernel
theorem dX4_addToken_14 : decode cX4_addToken 14 = .ok (.aload_n 0, 1) := by decide +kernel
theorem dX4_addToken_15 : decode cX4_addToken 15 = .ok (.getfield 77, 3) := by decide +kernel
theorem dX4_addToken_18 : decode cX4_addToken 18 = .ok (.iload_n 1, 1) := by decide +kernel
theorem dX4_addToken_19 : decode cX4_addToken 19 = .ok (.iastore, 1) := by decide +kernel
theorem dX4_addToken_20 : decode cX4_addToken 20 = .ok (.aload_n 0, 1) := by decide +kernel
theorem dX4_addToken_21 : decode cX4_addToken 21 = .ok (.getfield 15, 3) := by decide +kernel
theorem dX4_addToken_24 : decode cX4_addToken 24 = .ok (.aload_n 0, 1) := by decide +kernel
theorem dX4_addToken_25 : decode cX4_addToken 25 = .ok (.getfield 77, 3) := by decide +kernel
theorem dX4_addToken_28 : decode cX4_addToken 28 = .ok (.iload_n 2, 1) := by decide +kernel
theorem dX4_addToken_29 : decode cX4_addToken 29 = .ok (.iastore, 1) := by decide +kernel
theorem dX4_addToken_30 : decode cX4_addToken 30 = .ok (.aload_n 0, 1) := by decide +kernel
theorem dX4_addToken_31 : decode cX4_addToken 31 = .ok (.getfield 18, 3) := by decide +kernel
theorem dX4_addToken_34 : decode cX4_addToken 34 = .ok (.aload_n 0, 1) := by decide +kernel
theorem dX4_addToken_35 : decode cX4_addToken 35 = .ok (.getfield 77, 3) := by decide +kernel
theorem dX4_addToken_38 : decode cX4_addToken 38 = .ok (.iload_n 3, 1) := by decide +kernel
theorem dX4_addToken_39 : decode cX4_addToken 39 = .ok (.iastore, 1) := by decide +kernel
theorem dX4_addToken_40 : decode cX4_addToken 40 = .ok (.aload_n 0, 1) := by decide +kernel
theorem dX4_addToken_41 : decode cX4_addToken 41 = .ok (.dup, 1) := by decide +kernel
theorem dX4_addToken_42 : decode cX4_addToken 42 = .ok (.getfield 77, 3) := by decide +kernel
theorem dX4_addToken_45 : decode cX4_addToken 45 = .ok (.iconst 1, 1) := by decide +kernel
theorem dX4_addToken_46 : decode cX4_addToken 46 = .ok (.iadd, 1) := by decide +kernel
theorem dX4_addToken_47 : decode cX4_addToken 47 = .ok (.putfield 77, 3) := by decide +kernel
theorem dX4_addToken_50 : decode cX4_addToken 50 = .ok (.return_, 1) := by decide +kernel
theorem dX4_isLetter_0 : decode cX4_isLetter 0 = .ok (.iload_n 0, 1) := by decide +kernel
theorem dX4_isLetter_1 : decode cX4_isLetter 1 = .ok (.bipush 97, 2) := by decide +kernel
theorem dX4_isLetter_3 : decode cX4_isLetter 3 = .ok (.if_icmp .lt 13, 3) := by decide +kernel
theorem dX4_isLetter_6 : decode cX4_isLetter 6 = .ok (.iload_n 0, 1) := by decide +kernel
theorem dX4_isLetter_7 : decode cX4_isLetter 7 = .ok (.bipush 122, 2) := by decide +kernel
theorem dX4_isLetter_9 : decode cX4_isLetter 9 = .ok (.if_icmp .gt 7, 3) := by decide +kernel
theorem dX4_isLetter_12 : decode cX4_isLetter 12 = .ok (.iconst 1, 1) := by decide +kernel
theorem dX4_isLetter_13 : decode cX4_isLetter 13 = .ok (.goto 4, 3) := by decide +kernel
theorem dX4_isLetter_16 : decode cX4_isLetter 16 = .ok (.iconst 0, 1) := by decide +kernel
theorem dX4_isLetter_17 : decode cX4_isLetter 17 = .ok (.ireturn, 1) := by decide +kernel
theorem dX4_isDigit_0 : decode cX4_isDigit 0 = .ok (.iload_n 0, 1) := by decide +kernel
theorem dX4_isDigit_1 : decode cX4_isDigit 1 = .ok (.bipush 48, 2) := by decide +kernel
theorem dX4_isDigit_3 : decode cX4_isDigit 3 = .ok (.if_icmp .lt 13, 3) := by decide +kernel
theorem dX4_isDigit_6 : decode cX4_isDigit 6 = .ok (.iload_n 0, 1) := by decide +kernel
theorem dX4_isDigit_7 : decode cX4_isDigit 7 = .ok (.bipush 57, 2) := by decide +kernel
theorem dX4_isDigit_9 : decode cX4_isDigit 9 = .ok (.if_icmp .gt 7, 3) := by decide +kernel
theorem dX4_isDigit_12 : decode cX4_isDigit 12 = .ok (.iconst 1, 1) := by decide +kernel
theorem dX4_isDigit_13 : decode cX4_isDigit 13 = .ok (.goto 4, 3) := by decide +kernel
theorem dX4_isDigit_16 : decode cX4_isDigit 16 = .ok (.iconst 0, 1) := by decide +kernel
theorem dX4_isDigit_17 : decode cX4_isDigit 17 = .ok (.ireturn, 1) := by decide +kernel
theorem dX4_numberAt_0 : decode cX4_numberAt 0 = .ok (.iconst 0, 1) := by decide +kernel
theorem dX4_numberAt_1 : decode cX4_numberAt 1 = .ok (.istore_n 3, 1) := by decide +kernel
theorem dX4_numberAt_2 : decode cX4_numberAt 2 = .ok (.iload_n 1, 1) := by decide +kernel
theorem dX4_numberAt_3 : decode cX4_numberAt 3 = .ok (.istore 4, 2) := by decide +kernel
theorem dX4_numberAt_5 : decode cX4_numberAt 5 = .ok (.iload 4, 2) := by decide +kernel
theorem dX4_numberAt_7 : decode cX4_numberAt 7 = .ok (.iload_n 2, 1) := by decide +kernel
theorem dX4_numberAt_8 : decode cX4_numberAt 8 = .ok (.if_icmp .ge 30, 3) := by decide +kernel
theorem dX4_numberAt_11 : decode cX4_numberAt 11 = .ok (.iload_n 3, 1) := by decide +kernel
theorem dX4_numberAt_12 : decode cX4_numberAt 12 = .ok (.bipush 10, 2) := by decide +kernel
theorem dX4_numberAt_14 : decode cX4_numberAt 14 = .ok (.imul, 1) := by decide +kernel
theorem dX4_numberAt_15 : decode cX4_numberAt 15 = .ok (.aload_n 0, 1) := by decide +kernel
theorem dX4_numberAt_16 : decode cX4_numberAt 16 = .ok (.iload 4, 2) := by decide +kernel
theorem dX4_numberAt_18 : decode cX4_numberAt 18 = .ok (.invokevirtual 80, 3) := by decide +kernel
theorem dX4_numberAt_21 : decode cX4_numberAt 21 = .ok (.iadd, 1) := by decide +kernel
theorem dX4_numberAt_22 : decode cX4_numberAt 22 = .ok (.bipush 48, 2) := by decide +kernel
theorem dX4_numberAt_24 : decode cX4_numberAt 24 = .ok (.isub, 1) := by decide +kernel
theorem dX4_numberAt_25 : decode cX4_numberAt 25 = .ok (.sipush 1001, 3) := by decide +kernel
theorem dX4_numberAt_28 : decode cX4_numberAt 28 = .ok (.invokestatic 112, 3) := by decide +kernel
theorem dX4_numberAt_31 : decode cX4_numberAt 31 = .ok (.istore_n 3, 1) := by decide +kernel
theorem dX4_numberAt_32 : decode cX4_numberAt 32 = .ok (.iinc 4 1, 3) := by decide +kernel
theorem dX4_numberAt_35 : decode cX4_numberAt 35 = .ok (.goto (-30), 3) := by decide +kernel
theorem dX4_numberAt_38 : decode cX4_numberAt 38 = .ok (.iload_n 3, 1) := by decide +kernel
theorem dX4_numberAt_39 : decode cX4_numberAt 39 = .ok (.ireturn, 1) := by decide +kernel
theorem dX4_wordAt_0 : decode cX4_wordAt 0 = .ok (.iload_n 2, 1) := by decide +kernel
theorem dX4_wordAt_1 : decode cX4_wordAt 1 = .ok (.iload_n 1, 1) := by decide +kernel
theorem dX4_wordAt_2 : decode cX4_wordAt 2 = .ok (.isub, 1) := by decide +kernel
theorem dX4_wordAt_3 : decode cX4_wordAt 3 = .ok (.bipush 6, 2) := by decide +kernel
theorem dX4_wordAt_5 : decode cX4_wordAt 5 = .ok (.if_icmp .le 7, 3) := by decide +kernel
theorem dX4_wordAt_8 : decode cX4_wordAt 8 = .ok (.sipush 257, 3) := by decide +kernel
theorem dX4_wordAt_11 : decode cX4_wordAt 11 = .ok (.ireturn, 1) := by decide +kernel
theorem dX4_wordAt_12 : decode cX4_wordAt 12 = .ok (.iconst 0, 1) := by decide +kernel
theorem dX4_wordAt_13 : decode cX4_wordAt 13 = .ok (.istore_n 3, 1) := by decide +kernel
theorem dX4_wordAt_14 : decode cX4_wordAt 14 = .ok (.iload_n 3, 1) := by decide +kernel
theorem dX4_wordAt_15 : decode cX4_wordAt 15 = .ok (.bipush 6, 2) := by decide +kernel
theorem dX4_wordAt_17 : decode cX4_wordAt 17 = .ok (.imul, 1) := by decide +kernel
theorem dX4_wordAt_18 : decode cX4_wordAt 18 = .ok (.ldc 115, 2) := by decide +kernel
theorem dX4_wordAt_20 : decode cX4_wordAt 20 = .ok (.invokevirtual 117, 3) := by decide +kernel
theorem dX4_wordAt_23 : decode cX4_wordAt 23 = .ok (.if_icmp .ge 28, 3) := by decide +kernel
theorem dX4_wordAt_26 : decode cX4_wordAt 26 = .ok (.aload_n 0, 1) := by decide +kernel
theorem dX4_wordAt_27 : decode cX4_wordAt 27 = .ok (.iload_n 1, 1) := by decide +kernel
theorem dX4_wordAt_28 : decode cX4_wordAt 28 = .ok (.iload_n 2, 1) := by decide +kernel
theorem dX4_wordAt_29 : decode cX4_wordAt 29 = .ok (.iload_n 3, 1) := by decide +kernel
theorem dX4_wordAt_30 : decode cX4_wordAt 30 = .ok (.bipush 6, 2) := by decide +kernel
theorem dX4_wordAt_32 : decode cX4_wordAt 32 = .ok (.imul, 1) := by decide +kernel
theorem dX4_wordAt_33 : decode cX4_wordAt 33 = .ok (.invokestatic 122, 3) := by decide +kernel
theorem dX4_wordAt_36 : decode cX4_wordAt 36 = .ok (.ifCond .eq 9, 3) := by decide +kernel
theorem dX4_wordAt_39 : decode cX4_wordAt 39 = .ok (.sipush 300, 3) := by decide +kernel
theorem dX4_wordAt_42 : decode cX4_wordAt 42 = .ok (.iload_n 3, 1) := by decide +kernel
theorem dX4_wordAt_43 : decode cX4_wordAt 43 = .ok (.iadd, 1) := by decide +kernel
theorem dX4_wordAt_44 : decode cX4_wordAt 44 = .ok (.ireturn, 1) := by decide +kernel
theorem dX4_wordAt_45 : decode cX4_wordAt 45 = .ok (.iinc 3 1, 3) := by decide +kernel
theorem dX4_wordAt_48 : decode cX4_wordAt 48 = .ok (.goto (-34), 3) := by decide +kernel
theorem dX4_wordAt_51 : decode cX4_wordAt 51 = .ok (.sipush 257, 3) := by decide +kernel
theorem dX4_wordAt_54 : decode cX4_wordAt 54 = .ok (.ireturn, 1) := by decide +kernel
theorem dX4_isWordAt_0 : decode cX4_isWordAt 0 = .ok (.iconst 0, 1) := by decide +kernel
theorem dX4_isWordAt_1 : decode cX4_isWordAt 1 = .ok (.istore 4, 2) := by decide +kernel
theorem dX4_isWordAt_3 : decode cX4_isWordAt 3 = .ok (.iload 4, 2) := by decide +kernel
theorem dX4_isWordAt_5 : decode cX4_isWordAt 5 = .ok (.bipush 6, 2) := by decide +kernel
theorem dX4_isWordAt_7 : decode cX4_isWordAt 7 = .ok (.if_icmp .ge 60, 3) := by decide +kernel
theorem dX4_isWordAt_10 : decode cX4_isWordAt 10 = .ok (.iload_n 3, 1) := by decide +kernel
theorem dX4_isWordAt_11 : decode cX4_isWordAt 11 = .ok (.iload 4, 2) := by decide +kernel
theorem dX4_isWordAt_13 : decode cX4_isWordAt 13 = .ok (.iadd, 1) := by decide +kernel
theorem dX4_isWordAt_14 : decode cX4_isWordAt 14 = .ok (.ldc 115, 2) := by decide +kernel
theorem dX4_isWordAt_16 : decode cX4_isWordAt 16 = .ok (.invokevirtual 117, 3) := by decide +kernel
theorem dX4_isWordAt_19 : decode cX4_isWordAt 19 = .ok (.if_icmp .ge 48, 3) := by decide +kernel
theorem dX4_isWordAt_22 : decode cX4_isWordAt 22 = .ok (.iload_n 1, 1) := by decide +kernel
theorem dX4_isWordAt_23 : decode cX4_isWordAt 23 = .ok (.iload 4, 2) := by decide +kernel
theorem dX4_isWordAt_25 : decode cX4_isWordAt 25 = .ok (.iadd, 1) := by decide +kernel
theorem dX4_isWordAt_26 : decode cX4_isWordAt 26 = .ok (.iload_n 2, 1) := by decide +kernel
theorem dX4_isWordAt_27 : decode cX4_isWordAt 27 = .ok (.if_icmp .ge 14, 3) := by decide +kernel
theorem dX4_isWordAt_30 : decode cX4_isWordAt 30 = .ok (.aload_n 0, 1) := by decide +kernel
theorem dX4_isWordAt_31 : decode cX4_isWordAt 31 = .ok (.iload_n 1, 1) := by decide +kernel
theorem dX4_isWordAt_32 : decode cX4_isWordAt 32 = .ok (.iload 4, 2) := by decide +kernel
theorem dX4_isWordAt_34 : decode cX4_isWordAt 34 = .ok (.iadd, 1) := by decide +kernel
theorem dX4_isWordAt_35 : decode cX4_isWordAt 35 = .ok (.invokevirtual 80, 3) := by decide +kernel
theorem dX4_isWordAt_38 : decode cX4_isWordAt 38 = .ok (.goto 5, 3) := by decide +kernel
theorem dX4_isWordAt_41 : decode cX4_isWordAt 41 = .ok (.bipush 32, 2) := by decide +kernel
theorem dX4_isWordAt_43 : decode cX4_isWordAt 43 = .ok (.istore 5, 2) := by decide +kernel
theorem dX4_isWordAt_45 : decode cX4_isWordAt 45 = .ok (.iload 5, 2) := by decide +kernel
theorem dX4_isWordAt_47 : decode cX4_isWordAt 47 = .ok (.ldc 115, 2) := by decide +kernel
theorem dX4_isWordAt_49 : decode cX4_isWordAt 49 = .ok (.iload_n 3, 1) := by decide +kernel
theorem dX4_isWordAt_50 : decode cX4_isWordAt 50 = .ok (.iload 4, 2) := by decide +kernel
theorem dX4_isWordAt_52 : decode cX4_isWordAt 52 = .ok (.iadd, 1) := by decide +kernel
theorem dX4_isWordAt_53 : decode cX4_isWordAt 53 = .ok (.invokevirtual 126, 3) := by decide +kernel
theorem dX4_isWordAt_56 : decode cX4_isWordAt 56 = .ok (.if_icmp .eq 5, 3) := by decide +kernel
theorem dX4_isWordAt_59 : decode cX4_isWordAt 59 = .ok (.iconst 0, 1) := by decide +kernel
theorem dX4_isWordAt_60 : decode cX4_isWordAt 60 = .ok (.ireturn, 1) := by decide +kernel
theorem dX4_isWordAt_61 : decode cX4_isWordAt 61 = .ok (.iinc 4 1, 3) := by decide +kernel
theorem dX4_isWordAt_64 : decode cX4_isWordAt 64 = .ok (.goto (-61), 3) := by decide +kernel
theorem dX4_isWordAt_67 : decode cX4_isWordAt 67 = .ok (.iconst 1, 1) := by decide +kernel
theorem dX4_isWordAt_68 : decode cX4_isWordAt 68 = .ok (.ireturn, 1) := by decide +kernel
theorem dX4_kind_0 : decode cX4_kind 0 = .ok (.aload_n 0, 1) := by decide +kernel
theorem dX4_kind_1 : decode cX4_kind 1 = .ok (.getfield 35, 3) := by decide +kernel
theorem dX4_kind_4 : decode cX4_kind 4 = .ok (.ifCond .lt 26, 3) := by decide +kernel
theorem dX4_kind_7 : decode cX4_kind 7 = .ok (.aload_n 0, 1) := by decide +kernel
theorem dX4_kind_8 : decode cX4_kind 8 = .ok (.getfield 35, 3) := by decide +kernel
theorem dX4_kind_11 : decode cX4_kind 11 = .ok (.aload_n 0, 1) := by decide +kernel
theorem dX4_kind_12 : decode cX4_kind 12 = .ok (.getfield 77, 3) := by decide +kernel
theorem dX4_kind_15 : decode cX4_kind 15 = .ok (.if_icmp .ge 15, 3) := by decide +kernel
theorem dX4_kind_18 : decode cX4_kind 18 = .ok (.aload_n 0, 1) := by decide +kernel
theorem dX4_kind_19 : decode cX4_kind 19 = .ok (.getfield 9, 3) := by decide +kernel
theorem dX4_kind_22 : decode cX4_kind 22 = .ok (.aload_n 0, 1) := by decide +kernel
theorem dX4_kind_23 : decode cX4_kind 23 = .ok (.getfield 35, 3) := by decide +kernel
theorem dX4_kind_26 : decode cX4_kind 26 = .ok (.iaload, 1) := by decide +kernel
theorem dX4_kind_27 : decode cX4_kind 27 = .ok (.goto 6, 3) := by decide +kernel
theorem dX4_kind_30 : decode cX4_kind 30 = .ok (.sipush 258, 3) := by decide +kernel
theorem dX4_kind_33 : decode cX4_kind 33 = .ok (.ireturn, 1) := by decide +kernel
theorem dX4_fail_0 : decode cX4_fail 0 = .ok (.aload_n 0, 1) := by decide +kernel
theorem dX4_fail_1 : decode cX4_fail 1 = .ok (.aload_n 0, 1) := by decide +kernel
theorem dX4_fail_2 : decode cX4_fail 2 = .ok (.getfield 35, 3) := by decide +kernel
theorem dX4_fail_5 : decode cX4_fail 5 = .ok (.ifCond .lt 26, 3) := by decide +kernel
theorem dX4_fail_8 : decode cX4_fail 8 = .ok (.aload_n 0, 1) := by decide +kernel
theorem dX4_fail_9 : decode cX4_fail 9 = .ok (.getfield 35, 3) := by decide +kernel
theorem dX4_fail_12 : decode cX4_fail 12 = .ok (.aload_n 0, 1) := by decide +kernel
theorem dX4_fail_13 : decode cX4_fail 13 = .ok (.getfield 77, 3) := by decide +kernel
theorem dX4_fail_16 : decode cX4_fail 16 = .ok (.if_icmp .gt 15, 3) := by decide +kernel
theorem dX4_fail_19 : decode cX4_fail 19 = .ok (.aload_n 0, 1) := by decide +kernel
theorem dX4_fail_20 : decode cX4_fail 20 = .ok (.getfield 15, 3) := by decide +kernel
theorem dX4_fail_23 : decode cX4_fail 23 = .ok (.aload_n 0, 1) := by decide +kernel
theorem dX4_fail_24 : decode cX4_fail 24 = .ok (.getfield 35, 3) := by decide +kernel
theorem dX4_fail_27 : decode cX4_fail 27 = .ok (.iaload, 1) := by decide +kernel
theorem dX4_fail_28 : decode cX4_fail 28 = .ok (.goto 4, 3) := by decide +kernel
theorem dX4_fail_31 : decode cX4_fail 31 = .ok (.iconst (-1), 1) := by decide +kernel
theorem dX4_fail_32 : decode cX4_fail 32 = .ok (.putfield 27, 3) := by decide +kernel
theorem dX4_fail_35 : decode cX4_fail 35 = .ok (.iconst 0, 1) := by decide +kernel
theorem dX4_fail_36 : decode cX4_fail 36 = .ok (.ireturn, 1) := by decide +kernel
theorem dX4_take_0 : decode cX4_take 0 = .ok (.aload_n 0, 1) := by decide +kernel
theorem dX4_take_1 : decode cX4_take 1 = .ok (.invokevirtual 55, 3) := by decide +kernel
theorem dX4_take_4 : decode cX4_take 4 = .ok (.iload_n 1, 1) := by decide +kernel
theorem dX4_take_5 : decode cX4_take 5 = .ok (.if_icmp .eq 8, 3) := by decide +kernel
theorem dX4_take_8 : decode cX4_take 8 = .ok (.aload_n 0, 1) := by decide +kernel
theorem dX4_take_9 : decode cX4_take 9 = .ok (.invokevirtual 74, 3) := by decide +kernel
theorem dX4_take_12 : decode cX4_take 12 = .ok (.ireturn, 1) := by decide +kernel
theorem dX4_take_13 : decode cX4_take 13 = .ok (.aload_n 0, 1) := by decide +kernel
theorem dX4_take_14 : decode cX4_take 14 = .ok (.dup, 1) := by decide +kernel
theorem dX4_take_15 : decode cX4_take 15 = .ok (.getfield 35, 3) := by decide +kernel
theorem dX4_take_18 : decode cX4_take 18 = .ok (.iconst 1, 1) := by decide +kernel
theorem dX4_take_19 : decode cX4_take 19 = .ok (.iadd, 1) := by decide +kernel
theorem dX4_take_20 : decode cX4_take 20 = .ok (.putfield 35, 3) := by decide +kernel
theorem dX4_take_23 : decode cX4_take 23 = .ok (.iconst 1, 1) := by decide +kernel
theorem dX4_take_24 : decode cX4_take 24 = .ok (.ireturn, 1) := by decide +kernel
theorem dX4_addStep_0 : decode cX4_addStep 0 = .ok (.aload_n 0, 1) := by decide +kernel
theorem dX4_addStep_1 : decode cX4_addStep 1 = .ok (.getfield 38, 3) := by decide +kernel
theorem dX4_addStep_4 : decode cX4_addStep 4 = .ok (.sipush 600, 3) := by decide +kernel
theorem dX4_addStep_7 : decode cX4_addStep 7 = .ok (.if_icmp .ge 24, 3) := by decide +kernel
theorem dX4_addStep_10 : decode cX4_addStep 10 = .ok (.aload_n 0, 1) := by decide +kernel
theorem dX4_addStep_11 : decode cX4_addStep 11 = .ok (.getfield 21, 3) := by decide +kernel
theorem dX4_addStep_14 : decode cX4_addStep 14 = .ok (.aload_n 0, 1) := by decide +kernel
theorem dX4_addStep_15 : decode cX4_addStep 15 = .ok (.dup, 1) := by decide +kernel
theorem dX4_addStep_16 : decode cX4_addStep 16 = .ok (.getfield 38, 3) := by decide +kernel
theorem dX4_addStep_19 : decode cX4_addStep 19 = .ok (.dup_x1, 1) := by decide +kernel
theorem dX4_addStep_20 : decode cX4_addStep 20 = .ok (.iconst 1, 1) := by decide +kernel
theorem dX4_addStep_21 : decode cX4_addStep 21 = .ok (.iadd, 1) := by decide +kernel
theorem dX4_addStep_22 : decode cX4_addStep 22 = .ok (.putfield 38, 3) := by decide +kernel
theorem dX4_addStep_25 : decode cX4_addStep 25 = .ok (.iload_n 2, 1) := by decide +kernel
theorem dX4_addStep_26 : decode cX4_addStep 26 = .ok (.iconst 4, 1) := by decide +kernel
theorem dX4_addStep_27 : decode cX4_addStep 27 = .ok (.ishl, 1) := by decide +kernel
theorem dX4_addStep_28 : decode cX4_addStep 28 = .ok (.iload_n 1, 1) := by decide +kernel
theorem dX4_addStep_29 : decode cX4_addStep 29 = .ok (.ior, 1) := by decide +kernel
theorem dX4_addStep_30 : decode cX4_addStep 30 = .ok (.iastore, 1) := by decide +kernel
theorem dX4_addStep_31 : decode cX4_addStep 31 = .ok (.return_, 1) := by decide +kernel
theorem dX4_skipTillHere_0 : decode cX4_skipTillHere 0 = .ok (.iload_n 1, 1) := by decide +kernel
theorem dX4_skipTillHere_1 : decode cX4_skipTillHere 1 = .ok (.ifCond .lt 33, 3) := by decide +kernel
theorem dX4_skipTillHere_4 : decode cX4_skipTillHere 4 = .ok (.iload_n 1, 1) := by decide +kernel
theorem dX4_skipTillHere_5 : decode cX4_skipTillHere 5 = .ok (.aload_n 0, 1) := by decide +kernel
theorem dX4_skipTillHere_6 : decode cX4_skipTillHere 6 = .ok (.getfield 38, 3) := by decide +kernel
theorem dX4_skipTillHere_9 : decode cX4_skipTillHere 9 = .ok (.if_icmp .ge 25, 3) := by decide +kernel
theorem dX4_skipTillHere_12 : decode cX4_skipTillHere 12 = .ok (.aload_n 0, 1) := by decide +kernel
theorem dX4_skipTillHere_13 : decode cX4_skipTillHere 13 = .ok (.getfield 21, 3) := by decide +kernel
theorem dX4_skipTillHere_16 : decode cX4_skipTillHere 16 = .ok (.iload_n 1, 1) := by decide +kernel
theorem dX4_skipTillHere_17 : decode cX4_skipTillHere 17 = .ok (.aload_n 0, 1) := by decide +kernel
theorem dX4_skipTillHere_18 : decode cX4_skipTillHere 18 = .ok (.getfield 38, 3) := by decide +kernel
theorem dX4_skipTillHere_21 : decode cX4_skipTillHere 21 = .ok (.iconst 4, 1) := by decide +kernel
theorem dX4_skipTillHere_22 : decode cX4_skipTillHere 22 = .ok (.ishl, 1) := by decide +kernel
theorem dX4_skipTillHere_23 : decode cX4_skipTillHere 23 = .ok (.aload_n 0, 1) := by decide +kernel
theorem dX4_skipTillHere_24 : decode cX4_skipTillHere 24 = .ok (.getfield 21, 3) := by decide +kernel
theorem dX4_skipTillHere_27 : decode cX4_skipTillHere 27 = .ok (.iload_n 1, 1) := by decide +kernel
theorem dX4_skipTillHere_28 : decode cX4_skipTillHere 28 = .ok (.iaload, 1) := by decide +kernel
theorem dX4_skipTillHere_29 : decode cX4_skipTillHere 29 = .ok (.bipush 15, 2) := by decide +kernel
theorem dX4_skipTillHere_31 : decode cX4_skipTillHere 31 = .ok (.iand, 1) := by decide +kernel
theorem dX4_skipTillHere_32 : decode cX4_skipTillHere 32 = .ok (.ior, 1) := by decide +kernel
theorem dX4_skipTillHere_33 : decode cX4_skipTillHere 33 = .ok (.iastore, 1) := by decide +kernel
theorem dX4_skipTillHere_34 : decode cX4_skipTillHere 34 = .ok (.return_, 1) := by decide +kernel
theorem dX4_readClause_0 : decode cX4_readClause 0 = .ok (.aload_n 0, 1) := by decide +kernel
theorem dX4_readClause_1 : decode cX4_readClause 1 = .ok (.invokevirtual 55, 3) := by decide +kernel
theorem dX4_readClause_4 : decode cX4_readClause 4 = .ok (.istore_n 1, 1) := by decide +kernel
theorem dX4_readClause_5 : decode cX4_readClause 5 = .ok (.aload_n 0, 1) := by decide +kernel
theorem dX4_readClause_6 : decode cX4_readClause 6 = .ok (.getfield 41, 3) := by decide +kernel
theorem dX4_readClause_9 : decode cX4_readClause 9 = .ok (.bipush 6, 2) := by decide +kernel
theorem dX4_readClause_11 : decode cX4_readClause 11 = .ok (.imul, 1) := by decide +kernel
theorem dX4_readClause_12 : decode cX4_readClause 12 = .ok (.istore_n 2, 1) := by decide +kernel
theorem dX4_readClause_13 : decode cX4_readClause 13 = .ok (.aload_n 0, 1) := by decide +kernel
theorem dX4_readClause_14 : decode cX4_readClause 14 = .ok (.iload_n 1, 1) := by decide +kernel
theorem dX4_readClause_15 : decode cX4_readClause 15 = .ok (.invokevirtual 130, 3) := by decide +kernel
theorem dX4_readClause_18 : decode cX4_readClause 18 = .ok (.ifCond .eq 19, 3) := by decide +kernel
theorem dX4_readClause_21 : decode cX4_readClause 21 = .ok (.iload_n 2, 1) := by decide +kernel
theorem dX4_readClause_22 : decode cX4_readClause 22 = .ok (.ifCond .lt 15, 3) := by decide +kernel
theorem dX4_readClause_25 : decode cX4_readClause 25 = .ok (.iload_n 2, 1) := by decide +kernel
theorem dX4_readClause_26 : decode cX4_readClause 26 = .ok (.bipush 6, 2) := by decide +kernel
theorem dX4_readClause_28 : decode cX4_readClause 28 = .ok (.iadd, 1) := by decide +kernel
theorem dX4_readClause_29 : decode cX4_readClause 29 = .ok (.aload_n 0, 1) := by decide +kernel
theorem dX4_readClause_30 : decode cX4_readClause 30 = .ok (.getfield 24, 3) := by decide +kernel
theorem dX4_readClause_33 : decode cX4_readClause 33 = .ok (.arraylength, 1) := by decide +kernel
theorem dX4_readClause_34 : decode cX4_readClause 34 = .ok (.if_icmp .le 8, 3) := by decide +kernel
theorem dX4_readClause_37 : decode cX4_readClause 37 = .ok (.aload_n 0, 1) := by decide +kernel
theorem dX4_readClause_38 : decode cX4_readClause 38 = .ok (.invokevirtual 74, 3) := by decide +kernel
theorem dX4_readClause_41 : decode cX4_readClause 41 = .ok (.ireturn, 1) := by decide +kernel
theorem dX4_readClause_42 : decode cX4_readClause 42 = .ok (.aload_n 0, 1) := by decide +kernel
theorem dX4_readClause_43 : decode cX4_readClause 43 = .ok (.dup, 1) := by decide +kernel
theorem dX4_readClause_44 : decode cX4_readClause 44 = .ok (.getfield 35, 3) := by decide +kernel
theorem dX4_readClause_47 : decode cX4_readClause 47 = .ok (.iconst 1, 1) := by decide +kernel
theorem dX4_readClause_48 : decode cX4_readClause 48 = .ok (.iadd, 1) := by decide +kernel
theorem dX4_readClause_49 : decode cX4_readClause 49 = .ok (.putfield 35, 3) := by decide +kernel
theorem dX4_readClause_52 : decode cX4_readClause 52 = .ok (.aload_n 0, 1) := by decide +kernel
theorem dX4_readClause_53 : decode cX4_readClause 53 = .ok (.getfield 24, 3) := by decide +kernel
theorem dX4_readClause_56 : decode cX4_readClause 56 = .ok (.iload_n 2, 1) := by decide +kernel
theorem dX4_readClause_57 : decode cX4_readClause 57 = .ok (.iconst 0, 1) := by decide +kernel
theorem dX4_readClause_58 : decode cX4_readClause 58 = .ok (.iadd, 1) := by decide +kernel
theorem dX4_readClause_59 : decode cX4_readClause 59 = .ok (.iload_n 1, 1) := by decide +kernel
theorem dX4_readClause_60 : decode cX4_readClause 60 = .ok (.iastore, 1) := by decide +kernel
theorem dX4_readClause_61 : decode cX4_readClause 61 = .ok (.aload_n 0, 1) := by decide +kernel
theorem dX4_readClause_62 : decode cX4_readClause 62 = .ok (.getfield 24, 3) := by decide +kernel
theorem dX4_readClause_65 : decode cX4_readClause 65 = .ok (.iload_n 2, 1) := by decide +kernel
theorem dX4_readClause_66 : decode cX4_readClause 66 = .ok (.iconst 1, 1) := by decide +kernel
theorem dX4_readClause_67 : decode cX4_readClause 67 = .ok (.iadd, 1) := by decide +kernel
theorem dX4_readClause_68 : decode cX4_readClause 68 = .ok (.aload_n 0, 1) := by decide +kernel
theorem dX4_readClause_69 : decode cX4_readClause 69 = .ok (.getfield 38, 3) := by decide +kernel
theorem dX4_readClause_72 : decode cX4_readClause 72 = .ok (.iastore, 1) := by decide +kernel
theorem dX4_readClause_73 : decode cX4_readClause 73 = .ok (.iload_n 1, 1) := by decide +kernel
theorem dX4_readClause_74 : decode cX4_readClause 74 = .ok (.sipush 302, 3) := by decide +kernel
theorem dX4_readClause_77 : decode cX4_readClause 77 = .ok (.if_icmp .eq 21, 3) := by decide +kernel
theorem dX4_readClause_80 : decode cX4_readClause 80 = .ok (.iload_n 1, 1) := by decide +kernel
theorem dX4_readClause_81 : decode cX4_readClause 81 = .ok (.sipush 322, 3) := by decide +kernel
theorem dX4_readClause_84 : decode cX4_readClause 84 = .ok (.if_icmp .eq 14, 3) := by decide +kernel
theorem dX4_readClause_87 : decode cX4_readClause 87 = .ok (.aload_n 0, 1) := by decide +kernel
theorem dX4_readClause_88 : decode cX4_readClause 88 = .ok (.iconst 0, 1) := by decide +kernel
theorem dX4_readClause_89 : decode cX4_readClause 89 = .ok (.iconst 0, 1) := by decide +kernel
theorem dX4_readClause_90 : decode cX4_readClause 90 = .ok (.invokevirtual 133, 3) := by decide +kernel
theorem dX4_readClause_93 : decode cX4_readClause 93 = .ok (.ifCond .ne 5, 3) := by decide +kernel
theorem dX4_readClause_96 : decode cX4_readClause 96 = .ok (.iconst 0, 1) := by decide +kernel
theorem dX4_readClause_97 : decode cX4_readClause 97 = .ok (.ireturn, 1) := by decide +kernel
theorem dX4_readClause_98 : decode cX4_readClause 98 = .ok (.aload_n 0, 1) := by decide +kernel
theorem dX4_readClause_99 : decode cX4_readClause 99 = .ok (.getfield 24, 3) := by decide +kernel
theorem dX4_readClause_102 : decode cX4_readClause 102 = .ok (.iload_n 2, 1) := by decide +kernel
theorem dX4_readClause_103 : decode cX4_readClause 103 = .ok (.iconst 2, 1) := by decide +kernel
theorem dX4_readClause_104 : decode cX4_readClause 104 = .ok (.iadd, 1) := by decide +kernel
theorem dX4_readClause_105 : decode cX4_readClause 105 = .ok (.aload_n 0, 1) := by decide +kernel
theorem dX4_readClause_106 : decode cX4_readClause 106 = .ok (.getfield 38, 3) := by decide +kernel
theorem dX4_readClause_109 : decode cX4_readClause 109 = .ok (.iastore, 1) := by decide +kernel
theorem dX4_readClause_110 : decode cX4_readClause 110 = .ok (.iload_n 1, 1) := by decide +kernel
theorem dX4_readClause_111 : decode cX4_readClause 111 = .ok (.invokestatic 137, 3) := by decide +kernel
theorem dX4_readClause_114 : decode cX4_readClause 114 = .ok (.istore_n 3, 1) := by decide +kernel
theorem dX4_readClause_115 : decode cX4_readClause 115 = .ok (.iload_n 3, 1) := by decide +kernel
theorem dX4_readClause_116 : decode cX4_readClause 116 = .ok (.iconst (-1), 1) := by decide +kernel
theorem dX4_readClause_117 : decode cX4_readClause 117 = .ok (.if_icmp .eq 22, 3) := by decide +kernel
theorem dX4_readClause_120 : decode cX4_readClause 120 = .ok (.aload_n 0, 1) := by decide +kernel
theorem dX4_readClause_121 : decode cX4_readClause 121 = .ok (.iload_n 3, 1) := by decide +kernel
theorem dX4_readClause_122 : decode cX4_readClause 122 = .ok (.invokevirtual 70, 3) := by decide +kernel
theorem dX4_readClause_125 : decode cX4_readClause 125 = .ok (.ifCond .eq 12, 3) := by decide +kernel
theorem dX4_readClause_128 : decode cX4_readClause 128 = .ok (.aload_n 0, 1) := by decide +kernel
theorem dX4_readClause_129 : decode cX4_readClause 129 = .ok (.iconst 0, 1) := by decide +kernel
theorem dX4_readClause_130 : decode cX4_readClause 130 = .ok (.iconst 0, 1) := by decide +kernel
theorem dX4_readClause_131 : decode cX4_readClause 131 = .ok (.invokevirtual 133, 3) := by decide +kernel
theorem dX4_readClause_134 : decode cX4_readClause 134 = .ok (.ifCond .ne 5, 3) := by decide +kernel
theorem dX4_readClause_137 : decode cX4_readClause 137 = .ok (.iconst 0, 1) := by decide +kernel
theorem dX4_readClause_138 : decode cX4_readClause 138 = .ok (.ireturn, 1) := by decide +kernel
theorem dX4_readClause_139 : decode cX4_readClause 139 = .ok (.aload_n 0, 1) := by decide +kernel
theorem dX4_readClause_140 : decode cX4_readClause 140 = .ok (.getfield 24, 3) := by decide +kernel
theorem dX4_readClause_143 : decode cX4_readClause 143 = .ok (.iload_n 2, 1) := by decide +kernel
theorem dX4_readClause_144 : decode cX4_readClause 144 = .ok (.iconst 3, 1) := by decide +kernel
theorem dX4_readClause_145 : decode cX4_readClause 145 = .ok (.iadd, 1) := by decide +kernel
theorem dX4_readClause_146 : decode cX4_readClause 146 = .ok (.aload_n 0, 1) := by decide +kernel
theorem dX4_readClause_147 : decode cX4_readClause 147 = .ok (.getfield 38, 3) := by decide +kernel
theorem dX4_readClause_150 : decode cX4_readClause 150 = .ok (.iastore, 1) := by decide +kernel
theorem dX4_readClause_151 : decode cX4_readClause 151 = .ok (.aload_n 0, 1) := by decide +kernel
theorem dX4_readClause_152 : decode cX4_readClause 152 = .ok (.getfield 24, 3) := by decide +kernel
theorem dX4_readClause_155 : decode cX4_readClause 155 = .ok (.iload_n 2, 1) := by decide +kernel
theorem dX4_readClause_156 : decode cX4_readClause 156 = .ok (.iconst 5, 1) := by decide +kernel
theorem dX4_readClause_157 : decode cX4_readClause 157 = .ok (.iadd, 1) := by decide +kernel
theorem dX4_readClause_158 : decode cX4_readClause 158 = .ok (.iconst 1, 1) := by decide +kernel
theorem dX4_readClause_159 : decode cX4_readClause 159 = .ok (.iastore, 1) := by decide +kernel
theorem dX4_readClause_160 : decode cX4_readClause 160 = .ok (.aload_n 0, 1) := by decide +kernel
theorem dX4_readClause_161 : decode cX4_readClause 161 = .ok (.getfield 31, 3) := by decide +kernel
theorem dX4_readClause_164 : decode cX4_readClause 164 = .ok (.ifCond .ne 47, 3) := by decide +kernel
theorem dX4_readClause_167 : decode cX4_readClause 167 = .ok (.aload_n 0, 1) := by decide +kernel
theorem dX4_readClause_168 : decode cX4_readClause 168 = .ok (.invokevirtual 55, 3) := by decide +kernel
theorem dX4_readClause_171 : decode cX4_readClause 171 = .ok (.sipush 323, 3) := by decide +kernel
theorem dX4_readClause_174 : decode cX4_readClause 174 = .ok (.if_icmp .ne 37, 3) := by decide +kernel
theorem dX4_readClause_177 : decode cX4_readClause 177 = .ok (.aload_n 0, 1) := by decide +kernel
theorem dX4_readClause_178 : decode cX4_readClause 178 = .ok (.dup, 1) := by decide +kernel
theorem dX4_readClause_179 : decode cX4_readClause 179 = .ok (.getfield 35, 3) := by decide +kernel
theorem dX4_readClause_182 : decode cX4_readClause 182 = .ok (.iconst 1, 1) := by decide +kernel
theorem dX4_readClause_183 : decode cX4_readClause 183 = .ok (.iadd, 1) := by decide +kernel
theorem dX4_readClause_184 : decode cX4_readClause 184 = .ok (.putfield 35, 3) := by decide +kernel
theorem dX4_readClause_187 : decode cX4_readClause 187 = .ok (.aload_n 0, 1) := by decide +kernel
theorem dX4_readClause_188 : decode cX4_readClause 188 = .ok (.getfield 24, 3) := by decide +kernel
theorem dX4_readClause_191 : decode cX4_readClause 191 = .ok (.iload_n 2, 1) := by decide +kernel
theorem dX4_readClause_192 : decode cX4_readClause 192 = .ok (.iconst 5, 1) := by decide +kernel
theorem dX4_readClause_193 : decode cX4_readClause 193 = .ok (.iadd, 1) := by decide +kernel
theorem dX4_readClause_194 : decode cX4_readClause 194 = .ok (.aload_n 0, 1) := by decide +kernel
theorem dX4_readClause_195 : decode cX4_readClause 195 = .ok (.invokevirtual 140, 3) := by decide +kernel
theorem dX4_readClause_198 : decode cX4_readClause 198 = .ok (.iastore, 1) := by decide +kernel
theorem dX4_readClause_199 : decode cX4_readClause 199 = .ok (.aload_n 0, 1) := by decide +kernel
theorem dX4_readClause_200 : decode cX4_readClause 200 = .ok (.iconst 1, 1) := by decide +kernel
theorem dX4_readClause_201 : decode cX4_readClause 201 = .ok (.bipush 20, 2) := by decide +kernel
theorem dX4_readClause_203 : decode cX4_readClause 203 = .ok (.invokevirtual 143, 3) := by decide +kernel
theorem dX4_readClause_206 : decode cX4_readClause 206 = .ok (.ifCond .ne 5, 3) := by decide +kernel
theorem dX4_readClause_209 : decode cX4_readClause 209 = .ok (.iconst 0, 1) := by decide +kernel
theorem dX4_readClause_210 : decode cX4_readClause 210 = .ok (.ireturn, 1) := by decide +kernel
theorem dX4_readClause_211 : decode cX4_readClause 211 = .ok (.aload_n 0, 1) := by decide +kernel
theorem dX4_readClause_212 : decode cX4_readClause 212 = .ok (.invokevirtual 55, 3) := by decide +kernel
theorem dX4_readClause_215 : decode cX4_readClause 215 = .ok (.sipush 303, 3) := by decide +kernel
theorem dX4_readClause_218 : decode cX4_readClause 218 = .ok (.if_icmp .ne 26, 3) := by decide +kernel
theorem dX4_readClause_221 : decode cX4_readClause 221 = .ok (.aload_n 0, 1) := by decide +kernel
theorem dX4_readClause_222 : decode cX4_readClause 222 = .ok (.dup, 1) := by decide +kernel
theorem dX4_readClause_223 : decode cX4_readClause 223 = .ok (.getfield 35, 3) := by decide +kernel
theorem dX4_readClause_226 : decode cX4_readClause 226 = .ok (.iconst 1, 1) := by decide +kernel
theorem dX4_readClause_227 : decode cX4_readClause 227 = .ok (.iadd, 1) := by decide +kernel
theorem dX4_readClause_228 : decode cX4_readClause 228 = .ok (.putfield 35, 3) := by decide +kernel
theorem dX4_readClause_231 : decode cX4_readClause 231 = .ok (.aload_n 0, 1) := by decide +kernel
theorem dX4_readClause_232 : decode cX4_readClause 232 = .ok (.sipush 304, 3) := by decide +kernel
theorem dX4_readClause_235 : decode cX4_readClause 235 = .ok (.iconst 0, 1) := by decide +kernel
theorem dX4_readClause_236 : decode cX4_readClause 236 = .ok (.invokevirtual 146, 3) := by decide +kernel
theorem dX4_readClause_239 : decode cX4_readClause 239 = .ok (.ifCond .ne 5, 3) := by decide +kernel
theorem dX4_readClause_242 : decode cX4_readClause 242 = .ok (.iconst 0, 1) := by decide +kernel
theorem dX4_readClause_243 : decode cX4_readClause 243 = .ok (.ireturn, 1) := by decide +kernel
theorem dX4_readClause_244 : decode cX4_readClause 244 = .ok (.aload_n 0, 1) := by decide +kernel
theorem dX4_readClause_245 : decode cX4_readClause 245 = .ok (.getfield 24, 3) := by decide +kernel
theorem dX4_readClause_248 : decode cX4_readClause 248 = .ok (.iload_n 2, 1) := by decide +kernel
theorem dX4_readClause_249 : decode cX4_readClause 249 = .ok (.iconst 4, 1) := by decide +kernel
theorem dX4_readClause_250 : decode cX4_readClause 250 = .ok (.iadd, 1) := by decide +kernel
theorem dX4_readClause_251 : decode cX4_readClause 251 = .ok (.aload_n 0, 1) := by decide +kernel
theorem dX4_readClause_252 : decode cX4_readClause 252 = .ok (.getfield 38, 3) := by decide +kernel
theorem dX4_readClause_255 : decode cX4_readClause 255 = .ok (.iastore, 1) := by decide +kernel
theorem dX4_readClause_256 : decode cX4_readClause 256 = .ok (.aload_n 0, 1) := by decide +kernel
theorem dX4_readClause_257 : decode cX4_readClause 257 = .ok (.dup, 1) := by decide +kernel
theorem dX4_readClause_258 : decode cX4_readClause 258 = .ok (.getfield 41, 3) := by decide +kernel
theorem dX4_readClause_261 : decode cX4_readClause 261 = .ok (.iconst 1, 1) := by decide +kernel
theorem dX4_readClause_262 : decode cX4_readClause 262 = .ok (.iadd, 1) := by decide +kernel
theorem dX4_readClause_263 : decode cX4_readClause 263 = .ok (.putfield 41, 3) := by decide +kernel
theorem dX4_readClause_266 : decode cX4_readClause 266 = .ok (.iconst 1, 1) := by decide +kernel
theorem dX4_readClause_267 : decode cX4_readClause 267 = .ok (.ireturn, 1) := by decide +kernel
theorem dX4_beginsClause_0 : decode cX4_beginsClause 0 = .ok (.aload_n 0, 1) := by decide +kernel
theorem dX4_beginsClause_1 : decode cX4_beginsClause 1 = .ok (.getfield 31, 3) := by decide +kernel
theorem dX4_beginsClause_4 : decode cX4_beginsClause 4 = .ok (.ifCond .eq 30, 3) := by decide +kernel
theorem dX4_beginsClause_7 : decode cX4_beginsClause 7 = .ok (.iload_n 1, 1) := by decide +kernel
theorem dX4_beginsClause_8 : decode cX4_beginsClause 8 = .ok (.sipush 300, 3) := by decide +kernel
theorem dX4_beginsClause_11 : decode cX4_beginsClause 11 = .ok (.if_icmp .eq 17, 3) := by decide +kernel
theorem dX4_beginsClause_14 : decode cX4_beginsClause 14 = .ok (.iload_n 1, 1) := by decide +kernel
theorem dX4_beginsClause_15 : decode cX4_beginsClause 15 = .ok (.sipush 301, 3) := by decide +kernel
theorem dX4_beginsClause_18 : decode cX4_beginsClause 18 = .ok (.if_icmp .eq 10, 3) := by decide +kernel
theorem dX4_beginsClause_21 : decode cX4_beginsClause 21 = .ok (.iload_n 1, 1) := by decide +kernel
theorem dX4_beginsClause_22 : decode cX4_beginsClause 22 = .ok (.sipush 302, 3) := by decide +kernel
theorem dX4_beginsClause_25 : decode cX4_beginsClause 25 = .ok (.if_icmp .ne 7, 3) := by decide +kernel
theorem dX4_beginsClause_28 : decode cX4_beginsClause 28 = .ok (.iconst 1, 1) := by decide +kernel
theorem dX4_beginsClause_29 : decode cX4_beginsClause 29 = .ok (.goto 4, 3) := by decide +kernel
theorem dX4_beginsClause_32 : decode cX4_beginsClause 32 = .ok (.iconst 0, 1) := by decide +kernel
theorem dX4_beginsClause_33 : decode cX4_beginsClause 33 = .ok (.ireturn, 1) := by decide +kernel
theorem dX4_beginsClause_34 : decode cX4_beginsClause 34 = .ok (.iload_n 1, 1) := by decide +kernel
theorem dX4_beginsClause_35 : decode cX4_beginsClause 35 = .ok (.sipush 316, 3) := by decide +kernel
theorem dX4_beginsClause_38 : decode cX4_beginsClause 38 = .ok (.if_icmp .eq 24, 3) := by decide +kernel
theorem dX4_beginsClause_41 : decode cX4_beginsClause 41 = .ok (.iload_n 1, 1) := by decide +kernel
theorem dX4_beginsClause_42 : decode cX4_beginsClause 42 = .ok (.sipush 318, 3) := by decide +kernel
theorem dX4_beginsClause_45 : decode cX4_beginsClause 45 = .ok (.if_icmp .eq 17, 3) := by decide +kernel
theorem dX4_beginsClause_48 : decode cX4_beginsClause 48 = .ok (.iload_n 1, 1) := by decide +kernel
theorem dX4_beginsClause_49 : decode cX4_beginsClause 49 = .ok (.sipush 320, 3) := by decide +kernel
theorem dX4_beginsClause_52 : decode cX4_beginsClause 52 = .ok (.if_icmp .eq 10, 3) := by decide +kernel
theorem dX4_beginsClause_55 : decode cX4_beginsClause 55 = .ok (.iload_n 1, 1) := by decide +kernel
theorem dX4_beginsClause_56 : decode cX4_beginsClause 56 = .ok (.sipush 322, 3) := by decide +kernel
theorem dX4_beginsClause_59 : decode cX4_beginsClause 59 = .ok (.if_icmp .ne 7, 3) := by decide +kernel
theorem dX4_beginsClause_62 : decode cX4_beginsClause 62 = .ok (.iconst 1, 1) := by decide +kernel
theorem dX4_beginsClause_63 : decode cX4_beginsClause 63 = .ok (.goto 4, 3) := by decide +kernel
theorem dX4_beginsClause_66 : decode cX4_beginsClause 66 = .ok (.iconst 0, 1) := by decide +kernel
theorem dX4_beginsClause_67 : decode cX4_beginsClause 67 = .ok (.ireturn, 1) := by decide +kernel
theorem dX4_linkOf_0 : decode cX4_linkOf 0 = .ok (.iload_n 0, 1) := by decide +kernel
theorem dX4_linkOf_1 : decode cX4_linkOf 1 = .ok (.tableswitch 47 316 320 #[35, 47, 39, 47, 43], 35) := by decide +kernel
theorem dX4_linkOf_36 : decode cX4_linkOf 36 = .ok (.sipush 317, 3) := by decide +kernel
theorem dX4_linkOf_39 : decode cX4_linkOf 39 = .ok (.ireturn, 1) := by decide +kernel
theorem dX4_linkOf_40 : decode cX4_linkOf 40 = .ok (.sipush 319, 3) := by decide +kernel
theorem dX4_linkOf_43 : decode cX4_linkOf 43 = .ok (.ireturn, 1) := by decide +kernel
theorem dX4_linkOf_44 : decode cX4_linkOf 44 = .ok (.sipush 321, 3) := by decide +kernel
theorem dX4_linkOf_47 : decode cX4_linkOf 47 = .ok (.ireturn, 1) := by decide +kernel
theorem dX4_linkOf_48 : decode cX4_linkOf 48 = .ok (.iconst (-1), 1) := by decide +kernel
theorem dX4_linkOf_49 : decode cX4_linkOf 49 = .ok (.ireturn, 1) := by decide +kernel
theorem dX4_numberNow_0 : decode cX4_numberNow 0 = .ok (.aload_n 0, 1) := by decide +kernel
theorem dX4_numberNow_1 : decode cX4_numberNow 1 = .ok (.getfield 35, 3) := by decide +kernel
theorem dX4_numberNow_4 : decode cX4_numberNow 4 = .ok (.ifCond .lt 26, 3) := by decide +kernel
theorem dX4_numberNow_7 : decode cX4_numberNow 7 = .ok (.aload_n 0, 1) := by decide +kernel
theorem dX4_numberNow_8 : decode cX4_numberNow 8 = .ok (.getfield 35, 3) := by decide +kernel
theorem dX4_numberNow_11 : decode cX4_numberNow 11 = .ok (.aload_n 0, 1) := by decide +kernel
theorem dX4_numberNow_12 : decode cX4_numberNow 12 = .ok (.getfield 77, 3) := by decide +kernel
theorem dX4_numberNow_15 : decode cX4_numberNow 15 = .ok (.if_icmp .ge 15, 3) := by decide +kernel
theorem dX4_numberNow_18 : decode cX4_numberNow 18 = .ok (.aload_n 0, 1) := by decide +kernel
theorem dX4_numberNow_19 : decode cX4_numberNow 19 = .ok (.getfield 18, 3) := by decide +kernel
theorem dX4_numberNow_22 : decode cX4_numberNow 22 = .ok (.aload_n 0, 1) := by decide +kernel
theorem dX4_numberNow_23 : decode cX4_numberNow 23 = .ok (.getfield 35, 3) := by decide +kernel
theorem dX4_numberNow_26 : decode cX4_numberNow 26 = .ok (.iaload, 1) := by decide +kernel
theorem dX4_numberNow_27 : decode cX4_numberNow 27 = .ok (.goto 4, 3) := by decide +kernel
theorem dX4_numberNow_30 : decode cX4_numberNow 30 = .ok (.iconst 0, 1) := by decide +kernel
theorem dX4_numberNow_31 : decode cX4_numberNow 31 = .ok (.ireturn, 1) := by decide +kernel
theorem dX4_takeNumber_0 : decode cX4_takeNumber 0 = .ok (.aload_n 0, 1) := by decide +kernel
theorem dX4_takeNumber_1 : decode cX4_takeNumber 1 = .ok (.invokevirtual 55, 3) := by decide +kernel
theorem dX4_takeNumber_4 : decode cX4_takeNumber 4 = .ok (.sipush 256, 3) := by decide +kernel
theorem dX4_takeNumber_7 : decode cX4_takeNumber 7 = .ok (.if_icmp .ne 19, 3) := by decide +kernel
theorem dX4_takeNumber_10 : decode cX4_takeNumber 10 = .ok (.aload_n 0, 1) := by decide +kernel
theorem dX4_takeNumber_11 : decode cX4_takeNumber 11 = .ok (.invokevirtual 140, 3) := by decide +kernel
theorem dX4_takeNumber_14 : decode cX4_takeNumber 14 = .ok (.iload_n 1, 1) := by decide +kernel
theorem dX4_takeNumber_15 : decode cX4_takeNumber 15 = .ok (.if_icmp .lt 11, 3) := by decide +kernel
theorem dX4_takeNumber_18 : decode cX4_takeNumber 18 = .ok (.aload_n 0, 1) := by decide +kernel
theorem dX4_takeNumber_19 : decode cX4_takeNumber 19 = .ok (.invokevirtual 140, 3) := by decide +kernel
theorem dX4_takeNumber_22 : decode cX4_takeNumber 22 = .ok (.iload_n 2, 1) := by decide +kernel
theorem dX4_takeNumber_23 : decode cX4_takeNumber 23 = .ok (.if_icmp .le 8, 3) := by decide +kernel
theorem dX4_takeNumber_26 : decode cX4_takeNumber 26 = .ok (.aload_n 0, 1) := by decide +kernel
theorem dX4_takeNumber_27 : decode cX4_takeNumber 27 = .ok (.invokevirtual 74, 3) := by decide +kernel
theorem dX4_takeNumber_30 : decode cX4_takeNumber 30 = .ok (.ireturn, 1) := by decide +kernel
theorem dX4_takeNumber_31 : decode cX4_takeNumber 31 = .ok (.aload_n 0, 1) := by decide +kernel
theorem dX4_takeNumber_32 : decode cX4_takeNumber 32 = .ok (.dup, 1) := by decide +kernel
theorem dX4_takeNumber_33 : decode cX4_takeNumber 33 = .ok (.getfield 35, 3) := by decide +kernel
theorem dX4_takeNumber_36 : decode cX4_takeNumber 36 = .ok (.iconst 1, 1) := by decide +kernel
theorem dX4_takeNumber_37 : decode cX4_takeNumber 37 = .ok (.iadd, 1) := by decide +kernel
theorem dX4_takeNumber_38 : decode cX4_takeNumber 38 = .ok (.putfield 35, 3) := by decide +kernel
theorem dX4_takeNumber_41 : decode cX4_takeNumber 41 = .ok (.iconst 1, 1) := by decide +kernel
theorem dX4_takeNumber_42 : decode cX4_takeNumber 42 = .ok (.ireturn, 1) := by decide +kernel
theorem dX4_readTest_0 : decode cX4_readTest 0 = .ok (.iconst (-1), 1) := by decide +kernel
theorem dX4_readTest_1 : decode cX4_readTest 1 = .ok (.istore_n 3, 1) := by decide +kernel
theorem dX4_readTest_2 : decode cX4_readTest 2 = .ok (.iconst 1, 1) := by decide +kernel
theorem dX4_readTest_3 : decode cX4_readTest 3 = .ok (.istore 4, 2) := by decide +kernel
theorem dX4_readTest_5 : decode cX4_readTest 5 = .ok (.iload 4, 2) := by decide +kernel
theorem dX4_readTest_7 : decode cX4_readTest 7 = .ok (.ifCond .eq 107, 3) := by decide +kernel
theorem dX4_readTest_10 : decode cX4_readTest 10 = .ok (.aload_n 0, 1) := by decide +kernel
theorem dX4_readTest_11 : decode cX4_readTest 11 = .ok (.getfield 35, 3) := by decide +kernel
theorem dX4_readTest_14 : decode cX4_readTest 14 = .ok (.aload_n 0, 1) := by decide +kernel
theorem dX4_readTest_15 : decode cX4_readTest 15 = .ok (.getfield 77, 3) := by decide +kernel
theorem dX4_readTest_18 : decode cX4_readTest 18 = .ok (.if_icmp .gt 96, 3) := by decide +kernel
theorem dX4_readTest_21 : decode cX4_readTest 21 = .ok (.iload_n 1, 1) := by decide +kernel
theorem dX4_readTest_22 : decode cX4_readTest 22 = .ok (.sipush 304, 3) := by decide +kernel
theorem dX4_readTest_25 : decode cX4_readTest 25 = .ok (.if_icmp .ne 17, 3) := by decide +kernel
theorem dX4_readTest_28 : decode cX4_readTest 28 = .ok (.aload_n 0, 1) := by decide +kernel
theorem dX4_readTest_29 : decode cX4_readTest 29 = .ok (.sipush 305, 3) := by decide +kernel
theorem dX4_readTest_32 : decode cX4_readTest 32 = .ok (.iload_n 2, 1) := by decide +kernel
theorem dX4_readTest_33 : decode cX4_readTest 33 = .ok (.invokevirtual 146, 3) := by decide +kernel
theorem dX4_readTest_36 : decode cX4_readTest 36 = .ok (.ifCond .ne 16, 3) := by decide +kernel
theorem dX4_readTest_39 : decode cX4_readTest 39 = .ok (.goto 11, 3) := by decide +kernel
theorem dX4_readTest_42 : decode cX4_readTest 42 = .ok (.aload_n 0, 1) := by decide +kernel
theorem dX4_readTest_43 : decode cX4_readTest 43 = .ok (.iload_n 2, 1) := by decide +kernel
theorem dX4_readTest_44 : decode cX4_readTest 44 = .ok (.invokevirtual 149, 3) := by decide +kernel
theorem dX4_readTest_47 : decode cX4_readTest 47 = .ok (.ifCond .ne 5, 3) := by decide +kernel
theorem dX4_readTest_50 : decode cX4_readTest 50 = .ok (.iconst 0, 1) := by decide +kernel
theorem dX4_readTest_51 : decode cX4_readTest 51 = .ok (.ireturn, 1) := by decide +kernel
theorem dX4_readTest_52 : decode cX4_readTest 52 = .ok (.aload_n 0, 1) := by decide +kernel
theorem dX4_readTest_53 : decode cX4_readTest 53 = .ok (.iload_n 3, 1) := by decide +kernel
theorem dX4_readTest_54 : decode cX4_readTest 54 = .ok (.invokevirtual 152, 3) := by decide +kernel
theorem dX4_readTest_57 : decode cX4_readTest 57 = .ok (.aload_n 0, 1) := by decide +kernel
theorem dX4_readTest_58 : decode cX4_readTest 58 = .ok (.invokevirtual 55, 3) := by decide +kernel
theorem dX4_readTest_61 : decode cX4_readTest 61 = .ok (.iload_n 1, 1) := by decide +kernel
theorem dX4_readTest_62 : decode cX4_readTest 62 = .ok (.if_icmp .ne 7, 3) := by decide +kernel
theorem dX4_readTest_65 : decode cX4_readTest 65 = .ok (.iconst 1, 1) := by decide +kernel
theorem dX4_readTest_66 : decode cX4_readTest 66 = .ok (.goto 4, 3) := by decide +kernel
theorem dX4_readTest_69 : decode cX4_readTest 69 = .ok (.iconst 0, 1) := by decide +kernel
theorem dX4_readTest_70 : decode cX4_readTest 70 = .ok (.istore 4, 2) := by decide +kernel
theorem dX4_readTest_72 : decode cX4_readTest 72 = .ok (.iload 4, 2) := by decide +kernel
theorem dX4_readTest_74 : decode cX4_readTest 74 = .ok (.ifCond .eq (-69), 3) := by decide +kernel
theorem dX4_readTest_77 : decode cX4_readTest 77 = .ok (.aload_n 0, 1) := by decide +kernel
theorem dX4_readTest_78 : decode cX4_readTest 78 = .ok (.dup, 1) := by decide +kernel
theorem dX4_readTest_79 : decode cX4_readTest 79 = .ok (.getfield 35, 3) := by decide +kernel
theorem dX4_readTest_82 : decode cX4_readTest 82 = .ok (.iconst 1, 1) := by decide +kernel
theorem dX4_readTest_83 : decode cX4_readTest 83 = .ok (.iadd, 1) := by decide +kernel
theorem dX4_readTest_84 : decode cX4_readTest 84 = .ok (.putfield 35, 3) := by decide +kernel
theorem dX4_readTest_87 : decode cX4_readTest 87 = .ok (.aload_n 0, 1) := by decide +kernel
theorem dX4_readTest_88 : decode cX4_readTest 88 = .ok (.getfield 38, 3) := by decide +kernel
theorem dX4_readTest_91 : decode cX4_readTest 91 = .ok (.istore_n 3, 1) := by decide +kernel
theorem dX4_readTest_92 : decode cX4_readTest 92 = .ok (.aload_n 0, 1) := by decide +kernel
theorem dX4_readTest_93 : decode cX4_readTest 93 = .ok (.iload_n 1, 1) := by decide +kernel
theorem dX4_readTest_94 : decode cX4_readTest 94 = .ok (.sipush 304, 3) := by decide +kernel
theorem dX4_readTest_97 : decode cX4_readTest 97 = .ok (.if_icmp .ne 8, 3) := by decide +kernel
theorem dX4_readTest_100 : decode cX4_readTest 100 = .ok (.bipush 11, 2) := by decide +kernel
theorem dX4_readTest_102 : decode cX4_readTest 102 = .ok (.goto 5, 3) := by decide +kernel
theorem dX4_readTest_105 : decode cX4_readTest 105 = .ok (.bipush 12, 2) := by decide +kernel
theorem dX4_readTest_107 : decode cX4_readTest 107 = .ok (.iconst 0, 1) := by decide +kernel
theorem dX4_readTest_108 : decode cX4_readTest 108 = .ok (.invokevirtual 156, 3) := by decide +kernel
theorem dX4_readTest_111 : decode cX4_readTest 111 = .ok (.goto (-106), 3) := by decide +kernel
theorem dX4_readTest_114 : decode cX4_readTest 114 = .ok (.iconst 1, 1) := by decide +kernel
theorem dX4_readTest_115 : decode cX4_readTest 115 = .ok (.ireturn, 1) := by decide +kernel
theorem dX4_readPlain_0 : decode cX4_readPlain 0 = .ok (.iconst 0, 1) := by decide +kernel
theorem dX4_readPlain_1 : decode cX4_readPlain 1 = .ok (.istore_n 2, 1) := by decide +kernel
theorem dX4_readPlain_2 : decode cX4_readPlain 2 = .ok (.aload_n 0, 1) := by decide +kernel
theorem dX4_readPlain_3 : decode cX4_readPlain 3 = .ok (.getfield 35, 3) := by decide +kernel
theorem dX4_readPlain_6 : decode cX4_readPlain 6 = .ok (.aload_n 0, 1) := by decide +kernel
theorem dX4_readPlain_7 : decode cX4_readPlain 7 = .ok (.getfield 77, 3) := by decide +kernel
theorem dX4_readPlain_10 : decode cX4_readPlain 10 = .ok (.if_icmp .ge 36, 3) := by decide +kernel
theorem dX4_readPlain_13 : decode cX4_readPlain 13 = .ok (.aload_n 0, 1) := by decide +kernel
theorem dX4_readPlain_14 : decode cX4_readPlain 14 = .ok (.invokevirtual 55, 3) := by decide +kernel
theorem dX4_readPlain_17 : decode cX4_readPlain 17 = .ok (.sipush 306, 3) := by decide +kernel
theorem dX4_readPlain_20 : decode cX4_readPlain 20 = .ok (.if_icmp .ne 26, 3) := by decide +kernel
theorem dX4_readPlain_23 : decode cX4_readPlain 23 = .ok (.aload_n 0, 1) := by decide +kernel
theorem dX4_readPlain_24 : decode cX4_readPlain 24 = .ok (.dup, 1) := by decide +kernel
theorem dX4_readPlain_25 : decode cX4_readPlain 25 = .ok (.getfield 35, 3) := by decide +kernel
theorem dX4_readPlain_28 : decode cX4_readPlain 28 = .ok (.iconst 1, 1) := by decide +kernel
theorem dX4_readPlain_29 : decode cX4_readPlain 29 = .ok (.iadd, 1) := by decide +kernel
theorem dX4_readPlain_30 : decode cX4_readPlain 30 = .ok (.putfield 35, 3) := by decide +kernel
theorem dX4_readPlain_33 : decode cX4_readPlain 33 = .ok (.iload_n 2, 1) := by decide +kernel
theorem dX4_readPlain_34 : decode cX4_readPlain 34 = .ok (.ifCond .ne 7, 3) := by decide +kernel
theorem dX4_readPlain_37 : decode cX4_readPlain 37 = .ok (.iconst 1, 1) := by decide +kernel
theorem dX4_readPlain_38 : decode cX4_readPlain 38 = .ok (.goto 4, 3) := by decide +kernel
theorem dX4_readPlain_41 : decode cX4_readPlain 41 = .ok (.iconst 0, 1) := by decide +kernel
theorem dX4_readPlain_42 : decode cX4_readPlain 42 = .ok (.istore_n 2, 1) := by decide +kernel
theorem dX4_readPlain_43 : decode cX4_readPlain 43 = .ok (.goto (-41), 3) := by decide +kernel
theorem dX4_readPlain_46 : decode cX4_readPlain 46 = .ok (.aload_n 0, 1) := by decide +kernel
theorem dX4_readPlain_47 : decode cX4_readPlain 47 = .ok (.invokevirtual 55, 3) := by decide +kernel
theorem dX4_readPlain_50 : decode cX4_readPlain 50 = .ok (.bipush 40, 2) := by decide +kernel
theorem dX4_readPlain_52 : decode cX4_readPlain 52 = .ok (.if_icmp .ne 48, 3) := by decide +kernel
theorem dX4_readPlain_55 : decode cX4_readPlain 55 = .ok (.iload_n 1, 1) := by decide +kernel
theorem dX4_readPlain_56 : decode cX4_readPlain 56 = .ok (.bipush 8, 2) := by decide +kernel
theorem dX4_readPlain_58 : decode cX4_readPlain 58 = .ok (.if_icmp .lt 8, 3) := by decide +kernel
theorem dX4_readPlain_61 : decode cX4_readPlain 61 = .ok (.aload_n 0, 1) := by decide +kernel
theorem dX4_readPlain_62 : decode cX4_readPlain 62 = .ok (.invokevirtual 74, 3) := by decide +kernel
theorem dX4_readPlain_65 : decode cX4_readPlain 65 = .ok (.ireturn, 1) := by decide +kernel
theorem dX4_readPlain_66 : decode cX4_readPlain 66 = .ok (.aload_n 0, 1) := by decide +kernel
theorem dX4_readPlain_67 : decode cX4_readPlain 67 = .ok (.dup, 1) := by decide +kernel
theorem dX4_readPlain_68 : decode cX4_readPlain 68 = .ok (.getfield 35, 3) := by decide +kernel
theorem dX4_readPlain_71 : decode cX4_readPlain 71 = .ok (.iconst 1, 1) := by decide +kernel
theorem dX4_readPlain_72 : decode cX4_readPlain 72 = .ok (.iadd, 1) := by decide +kernel
theorem dX4_readPlain_73 : decode cX4_readPlain 73 = .ok (.putfield 35, 3) := by decide +kernel
theorem dX4_readPlain_76 : decode cX4_readPlain 76 = .ok (.aload_n 0, 1) := by decide +kernel
theorem dX4_readPlain_77 : decode cX4_readPlain 77 = .ok (.sipush 304, 3) := by decide +kernel
theorem dX4_readPlain_80 : decode cX4_readPlain 80 = .ok (.iload_n 1, 1) := by decide +kernel
theorem dX4_readPlain_81 : decode cX4_readPlain 81 = .ok (.iconst 1, 1) := by decide +kernel
theorem dX4_readPlain_82 : decode cX4_readPlain 82 = .ok (.iadd, 1) := by decide +kernel
theorem dX4_readPlain_83 : decode cX4_readPlain 83 = .ok (.invokevirtual 146, 3) := by decide +kernel
theorem dX4_readPlain_86 : decode cX4_readPlain 86 = .ok (.ifCond .eq 12, 3) := by decide +kernel
theorem dX4_readPlain_89 : decode cX4_readPlain 89 = .ok (.aload_n 0, 1) := by decide +kernel
theorem dX4_readPlain_90 : decode cX4_readPlain 90 = .ok (.bipush 41, 2) := by decide +kernel
theorem dX4_readPlain_92 : decode cX4_readPlain 92 = .ok (.invokevirtual 70, 3) := by decide +kernel
theorem dX4_readPlain_95 : decode cX4_readPlain 95 = .ok (.ifCond .ne 61, 3) := by decide +kernel
theorem dX4_readPlain_98 : decode cX4_readPlain 98 = .ok (.iconst 0, 1) := by decide +kernel
theorem dX4_readPlain_99 : decode cX4_readPlain 99 = .ok (.ireturn, 1) := by decide +kernel
theorem dX4_readPlain_100 : decode cX4_readPlain 100 = .ok (.aload_n 0, 1) := by decide +kernel
theorem dX4_readPlain_101 : decode cX4_readPlain 101 = .ok (.iconst 0, 1) := by decide +kernel
theorem dX4_readPlain_102 : decode cX4_readPlain 102 = .ok (.iload_n 1, 1) := by decide +kernel
theorem dX4_readPlain_103 : decode cX4_readPlain 103 = .ok (.invokevirtual 133, 3) := by decide +kernel
theorem dX4_readPlain_106 : decode cX4_readPlain 106 = .ok (.ifCond .ne 5, 3) := by decide +kernel
theorem dX4_readPlain_109 : decode cX4_readPlain 109 = .ok (.iconst 0, 1) := by decide +kernel
theorem dX4_readPlain_110 : decode cX4_readPlain 110 = .ok (.ireturn, 1) := by decide +kernel
theorem dX4_readPlain_111 : decode cX4_readPlain 111 = .ok (.aload_n 0, 1) := by decide +kernel
theorem dX4_readPlain_112 : decode cX4_readPlain 112 = .ok (.invokevirtual 55, 3) := by decide +kernel
theorem dX4_readPlain_115 : decode cX4_readPlain 115 = .ok (.invokestatic 160, 3) := by decide +kernel
theorem dX4_readPlain_118 : decode cX4_readPlain 118 = .ok (.istore_n 3, 1) := by decide +kernel
theorem dX4_readPlain_119 : decode cX4_readPlain 119 = .ok (.iload_n 3, 1) := by decide +kernel
theorem dX4_readPlain_120 : decode cX4_readPlain 120 = .ok (.iconst (-1), 1) := by decide +kernel
theorem dX4_readPlain_121 : decode cX4_readPlain 121 = .ok (.if_icmp .ne 8, 3) := by decide +kernel
theorem dX4_readPlain_124 : decode cX4_readPlain 124 = .ok (.aload_n 0, 1) := by decide +kernel
theorem dX4_readPlain_125 : decode cX4_readPlain 125 = .ok (.invokevirtual 74, 3) := by decide +kernel
theorem dX4_readPlain_128 : decode cX4_readPlain 128 = .ok (.ireturn, 1) := by decide +kernel
theorem dX4_readPlain_129 : decode cX4_readPlain 129 = .ok (.aload_n 0, 1) := by decide +kernel
theorem dX4_readPlain_130 : decode cX4_readPlain 130 = .ok (.dup, 1) := by decide +kernel
theorem dX4_readPlain_131 : decode cX4_readPlain 131 = .ok (.getfield 35, 3) := by decide +kernel
theorem dX4_readPlain_134 : decode cX4_readPlain 134 = .ok (.iconst 1, 1) := by decide +kernel
theorem dX4_readPlain_135 : decode cX4_readPlain 135 = .ok (.iadd, 1) := by decide +kernel
theorem dX4_readPlain_136 : decode cX4_readPlain 136 = .ok (.putfield 35, 3) := by decide +kernel
theorem dX4_readPlain_139 : decode cX4_readPlain 139 = .ok (.aload_n 0, 1) := by decide +kernel
theorem dX4_readPlain_140 : decode cX4_readPlain 140 = .ok (.iconst 0, 1) := by decide +kernel
theorem dX4_readPlain_141 : decode cX4_readPlain 141 = .ok (.iload_n 1, 1) := by decide +kernel
theorem dX4_readPlain_142 : decode cX4_readPlain 142 = .ok (.invokevirtual 133, 3) := by decide +kernel
theorem dX4_readPlain_145 : decode cX4_readPlain 145 = .ok (.ifCond .ne 5, 3) := by decide +kernel
theorem dX4_readPlain_148 : decode cX4_readPlain 148 = .ok (.iconst 0, 1) := by decide +kernel
theorem dX4_readPlain_149 : decode cX4_readPlain 149 = .ok (.ireturn, 1) := by decide +kernel
theorem dX4_readPlain_150 : decode cX4_readPlain 150 = .ok (.aload_n 0, 1) := by decide +kernel
theorem dX4_readPlain_151 : decode cX4_readPlain 151 = .ok (.iload_n 3, 1) := by decide +kernel
theorem dX4_readPlain_152 : decode cX4_readPlain 152 = .ok (.iconst 0, 1) := by decide +kernel
theorem dX4_readPlain_153 : decode cX4_readPlain 153 = .ok (.invokevirtual 156, 3) := by decide +kernel
theorem dX4_readPlain_156 : decode cX4_readPlain 156 = .ok (.iload_n 2, 1) := by decide +kernel
theorem dX4_readPlain_157 : decode cX4_readPlain 157 = .ok (.ifCond .eq 10, 3) := by decide +kernel
theorem dX4_readPlain_160 : decode cX4_readPlain 160 = .ok (.aload_n 0, 1) := by decide +kernel
theorem dX4_readPlain_161 : decode cX4_readPlain 161 = .ok (.bipush 10, 2) := by decide +kernel
theorem dX4_readPlain_163 : decode cX4_readPlain 163 = .ok (.iconst 0, 1) := by decide +kernel
theorem dX4_readPlain_164 : decode cX4_readPlain 164 = .ok (.invokevirtual 156, 3) := by decide +kernel
theorem dX4_readPlain_167 : decode cX4_readPlain 167 = .ok (.iconst 1, 1) := by decide +kernel
theorem dX4_readPlain_168 : decode cX4_readPlain 168 = .ok (.ireturn, 1) := by decide +kernel
theorem dX4_comparisonOf_0 : decode cX4_comparisonOf 0 = .ok (.iload_n 0, 1) := by decide +kernel
theorem dX4_comparisonOf_1 : decode cX4_comparisonOf 1 = .ok (.tableswitch 36 60 62 #[27, 33, 30], 27) := by decide +kernel
theorem dX4_comparisonOf_28 : decode cX4_comparisonOf 28 = .ok (.bipush 7, 2) := by decide +kernel
theorem dX4_comparisonOf_30 : decode cX4_comparisonOf 30 = .ok (.ireturn, 1) := by decide +kernel
theorem dX4_comparisonOf_31 : decode cX4_comparisonOf 31 = .ok (.bipush 8, 2) := by decide +kernel
theorem dX4_comparisonOf_33 : decode cX4_comparisonOf 33 = .ok (.ireturn, 1) := by decide +kernel
theorem dX4_comparisonOf_34 : decode cX4_comparisonOf 34 = .ok (.bipush 9, 2) := by decide +kernel
theorem dX4_comparisonOf_36 : decode cX4_comparisonOf 36 = .ok (.ireturn, 1) := by decide +kernel
theorem dX4_comparisonOf_37 : decode cX4_comparisonOf 37 = .ok (.iconst (-1), 1) := by decide +kernel
theorem dX4_comparisonOf_38 : decode cX4_comparisonOf 38 = .ok (.ireturn, 1) := by decide +kernel
theorem dX4_readSum_0 : decode cX4_readSum 0 = .ok (.iconst (-1), 1) := by decide +kernel
theorem dX4_readSum_1 : decode cX4_readSum 1 = .ok (.istore_n 3, 1) := by decide +kernel
theorem dX4_readSum_2 : decode cX4_readSum 2 = .ok (.iconst 1, 1) := by decide +kernel
theorem dX4_readSum_3 : decode cX4_readSum 3 = .ok (.istore 4, 2) := by decide +kernel
theorem dX4_readSum_5 : decode cX4_readSum 5 = .ok (.iload 4, 2) := by decide +kernel
theorem dX4_readSum_7 : decode cX4_readSum 7 = .ok (.ifCond .eq 103, 3) := by decide +kernel
theorem dX4_readSum_10 : decode cX4_readSum 10 = .ok (.aload_n 0, 1) := by decide +kernel
theorem dX4_readSum_11 : decode cX4_readSum 11 = .ok (.getfield 35, 3) := by decide +kernel
theorem dX4_readSum_14 : decode cX4_readSum 14 = .ok (.aload_n 0, 1) := by decide +kernel
theorem dX4_readSum_15 : decode cX4_readSum 15 = .ok (.getfield 77, 3) := by decide +kernel
theorem dX4_readSum_18 : decode cX4_readSum 18 = .ok (.if_icmp .gt 92, 3) := by decide +kernel
theorem dX4_readSum_21 : decode cX4_readSum 21 = .ok (.iload_n 1, 1) := by decide +kernel
theorem dX4_readSum_22 : decode cX4_readSum 22 = .ok (.ifCond .ne 15, 3) := by decide +kernel
theorem dX4_readSum_25 : decode cX4_readSum 25 = .ok (.aload_n 0, 1) := by decide +kernel
theorem dX4_readSum_26 : decode cX4_readSum 26 = .ok (.iconst 1, 1) := by decide +kernel
theorem dX4_readSum_27 : decode cX4_readSum 27 = .ok (.iload_n 2, 1) := by decide +kernel
theorem dX4_readSum_28 : decode cX4_readSum 28 = .ok (.invokevirtual 133, 3) := by decide +kernel
theorem dX4_readSum_31 : decode cX4_readSum 31 = .ok (.ifCond .ne 16, 3) := by decide +kernel
theorem dX4_readSum_34 : decode cX4_readSum 34 = .ok (.goto 11, 3) := by decide +kernel
theorem dX4_readSum_37 : decode cX4_readSum 37 = .ok (.aload_n 0, 1) := by decide +kernel
theorem dX4_readSum_38 : decode cX4_readSum 38 = .ok (.iload_n 2, 1) := by decide +kernel
theorem dX4_readSum_39 : decode cX4_readSum 39 = .ok (.invokevirtual 163, 3) := by decide +kernel
theorem dX4_readSum_42 : decode cX4_readSum 42 = .ok (.ifCond .ne 5, 3) := by decide +kernel
theorem dX4_readSum_45 : decode cX4_readSum 45 = .ok (.iconst 0, 1) := by decide +kernel
theorem dX4_readSum_46 : decode cX4_readSum 46 = .ok (.ireturn, 1) := by decide +kernel
theorem dX4_readSum_47 : decode cX4_readSum 47 = .ok (.iload_n 3, 1) := by decide +kernel
theorem dX4_readSum_48 : decode cX4_readSum 48 = .ok (.iconst (-1), 1) := by decide +kernel
theorem dX4_readSum_49 : decode cX4_readSum 49 = .ok (.if_icmp .eq 9, 3) := by decide +kernel
theorem dX4_readSum_52 : decode cX4_readSum 52 = .ok (.aload_n 0, 1) := by decide +kernel
theorem dX4_readSum_53 : decode cX4_readSum 53 = .ok (.iload_n 3, 1) := by decide +kernel
theorem dX4_readSum_54 : decode cX4_readSum 54 = .ok (.iconst 0, 1) := by decide +kernel
theorem dX4_readSum_55 : decode cX4_readSum 55 = .ok (.invokevirtual 156, 3) := by decide +kernel
theorem dX4_readSum_58 : decode cX4_readSum 58 = .ok (.iload_n 1, 1) := by decide +kernel
theorem dX4_readSum_59 : decode cX4_readSum 59 = .ok (.ifCond .ne 13, 3) := by decide +kernel
theorem dX4_readSum_62 : decode cX4_readSum 62 = .ok (.aload_n 0, 1) := by decide +kernel
theorem dX4_readSum_63 : decode cX4_readSum 63 = .ok (.invokevirtual 55, 3) := by decide +kernel
theorem dX4_readSum_66 : decode cX4_readSum 66 = .ok (.invokestatic 166, 3) := by decide +kernel
theorem dX4_readSum_69 : decode cX4_readSum 69 = .ok (.goto 10, 3) := by decide +kernel
theorem dX4_readSum_72 : decode cX4_readSum 72 = .ok (.aload_n 0, 1) := by decide +kernel
theorem dX4_readSum_73 : decode cX4_readSum 73 = .ok (.invokevirtual 55, 3) := by decide +kernel
theorem dX4_readSum_76 : decode cX4_readSum 76 = .ok (.invokestatic 169, 3) := by decide +kernel
theorem dX4_readSum_79 : decode cX4_readSum 79 = .ok (.istore_n 3, 1) := by decide +kernel
theorem dX4_readSum_80 : decode cX4_readSum 80 = .ok (.iload_n 3, 1) := by decide +kernel
theorem dX4_readSum_81 : decode cX4_readSum 81 = .ok (.iconst (-1), 1) := by decide +kernel
theorem dX4_readSum_82 : decode cX4_readSum 82 = .ok (.if_icmp .eq 7, 3) := by decide +kernel
theorem dX4_readSum_85 : decode cX4_readSum 85 = .ok (.iconst 1, 1) := by decide +kernel
theorem dX4_readSum_86 : decode cX4_readSum 86 = .ok (.goto 4, 3) := by decide +kernel
theorem dX4_readSum_89 : decode cX4_readSum 89 = .ok (.iconst 0, 1) := by decide +kernel
theorem dX4_readSum_90 : decode cX4_readSum 90 = .ok (.istore 4, 2) := by decide +kernel
theorem dX4_readSum_92 : decode cX4_readSum 92 = .ok (.iload 4, 2) := by decide +kernel
theorem dX4_readSum_94 : decode cX4_readSum 94 = .ok (.ifCond .eq (-89), 3) := by decide +kernel
theorem dX4_readSum_97 : decode cX4_readSum 97 = .ok (.aload_n 0, 1) := by decide +kernel
theorem dX4_readSum_98 : decode cX4_readSum 98 = .ok (.dup, 1) := by decide +kernel
theorem dX4_readSum_99 : decode cX4_readSum 99 = .ok (.getfield 35, 3) := by decide +kernel
theorem dX4_readSum_102 : decode cX4_readSum 102 = .ok (.iconst 1, 1) := by decide +kernel
theorem dX4_readSum_103 : decode cX4_readSum 103 = .ok (.iadd, 1) := by decide +kernel
theorem dX4_readSum_104 : decode cX4_readSum 104 = .ok (.putfield 35, 3) := by decide +kernel
theorem dX4_readSum_107 : decode cX4_readSum 107 = .ok (.goto (-102), 3) := by decide +kernel
theorem dX4_readSum_110 : decode cX4_readSum 110 = .ok (.iconst 1, 1) := by decide +kernel
theorem dX4_readSum_111 : decode cX4_readSum 111 = .ok (.ireturn, 1) := by decide +kernel
theorem dX4_sumStepOf_0 : decode cX4_sumStepOf 0 = .ok (.iload_n 0, 1) := by decide +kernel
theorem dX4_sumStepOf_1 : decode cX4_sumStepOf 1 = .ok (.bipush 43, 2) := by decide +kernel
theorem dX4_sumStepOf_3 : decode cX4_sumStepOf 3 = .ok (.if_icmp .ne 7, 3) := by decide +kernel
theorem dX4_sumStepOf_6 : decode cX4_sumStepOf 6 = .ok (.iconst 2, 1) := by decide +kernel
theorem dX4_sumStepOf_7 : decode cX4_sumStepOf 7 = .ok (.goto 14, 3) := by decide +kernel
theorem dX4_sumStepOf_10 : decode cX4_sumStepOf 10 = .ok (.iload_n 0, 1) := by decide +kernel
theorem dX4_sumStepOf_11 : decode cX4_sumStepOf 11 = .ok (.bipush 45, 2) := by decide +kernel
theorem dX4_sumStepOf_13 : decode cX4_sumStepOf 13 = .ok (.if_icmp .ne 7, 3) := by decide +kernel
theorem dX4_sumStepOf_16 : decode cX4_sumStepOf 16 = .ok (.iconst 3, 1) := by decide +kernel
theorem dX4_sumStepOf_17 : decode cX4_sumStepOf 17 = .ok (.goto 4, 3) := by decide +kernel
theorem dX4_sumStepOf_20 : decode cX4_sumStepOf 20 = .ok (.iconst (-1), 1) := by decide +kernel
theorem dX4_sumStepOf_21 : decode cX4_sumStepOf 21 = .ok (.ireturn, 1) := by decide +kernel
theorem dX4_termStepOf_0 : decode cX4_termStepOf 0 = .ok (.iload_n 0, 1) := by decide +kernel
theorem dX4_termStepOf_1 : decode cX4_termStepOf 1 = .ok (.bipush 42, 2) := by decide +kernel
theorem dX4_termStepOf_3 : decode cX4_termStepOf 3 = .ok (.if_icmp .ne 7, 3) := by decide +kernel
theorem dX4_termStepOf_6 : decode cX4_termStepOf 6 = .ok (.iconst 4, 1) := by decide +kernel
theorem dX4_termStepOf_7 : decode cX4_termStepOf 7 = .ok (.goto 25, 3) := by decide +kernel
theorem dX4_termStepOf_10 : decode cX4_termStepOf 10 = .ok (.iload_n 0, 1) := by decide +kernel
theorem dX4_termStepOf_11 : decode cX4_termStepOf 11 = .ok (.bipush 47, 2) := by decide +kernel
theorem dX4_termStepOf_13 : decode cX4_termStepOf 13 = .ok (.if_icmp .ne 7, 3) := by decide +kernel
theorem dX4_termStepOf_16 : decode cX4_termStepOf 16 = .ok (.iconst 5, 1) := by decide +kernel
theorem dX4_termStepOf_17 : decode cX4_termStepOf 17 = .ok (.goto 15, 3) := by decide +kernel
theorem dX4_termStepOf_20 : decode cX4_termStepOf 20 = .ok (.iload_n 0, 1) := by decide +kernel
theorem dX4_termStepOf_21 : decode cX4_termStepOf 21 = .ok (.bipush 37, 2) := by decide +kernel
theorem dX4_termStepOf_23 : decode cX4_termStepOf 23 = .ok (.if_icmp .ne 8, 3) := by decide +kernel
theorem dX4_termStepOf_26 : decode cX4_termStepOf 26 = .ok (.bipush 6, 2) := by decide +kernel
theorem dX4_termStepOf_28 : decode cX4_termStepOf 28 = .ok (.goto 4, 3) := by decide +kernel
theorem dX4_termStepOf_31 : decode cX4_termStepOf 31 = .ok (.iconst (-1), 1) := by decide +kernel
theorem dX4_termStepOf_32 : decode cX4_termStepOf 32 = .ok (.ireturn, 1) := by decide +kernel
theorem dX4_readPart_0 : decode cX4_readPart 0 = .ok (.aload_n 0, 1) := by decide +kernel
theorem dX4_readPart_1 : decode cX4_readPart 1 = .ok (.invokevirtual 55, 3) := by decide +kernel
theorem dX4_readPart_4 : decode cX4_readPart 4 = .ok (.istore_n 2, 1) := by decide +kernel
theorem dX4_readPart_5 : decode cX4_readPart 5 = .ok (.iload_n 2, 1) := by decide +kernel
theorem dX4_readPart_6 : decode cX4_readPart 6 = .ok (.bipush 91, 2) := by decide +kernel
theorem dX4_readPart_8 : decode cX4_readPart 8 = .ok (.if_icmp .ne 50, 3) := by decide +kernel
theorem dX4_readPart_11 : decode cX4_readPart 11 = .ok (.iload_n 1, 1) := by decide +kernel
theorem dX4_readPart_12 : decode cX4_readPart 12 = .ok (.bipush 8, 2) := by decide +kernel
theorem dX4_readPart_14 : decode cX4_readPart 14 = .ok (.if_icmp .lt 8, 3) := by decide +kernel
theorem dX4_readPart_17 : decode cX4_readPart 17 = .ok (.aload_n 0, 1) := by decide +kernel
theorem dX4_readPart_18 : decode cX4_readPart 18 = .ok (.invokevirtual 74, 3) := by decide +kernel
theorem dX4_readPart_21 : decode cX4_readPart 21 = .ok (.ireturn, 1) := by decide +kernel
theorem dX4_readPart_22 : decode cX4_readPart 22 = .ok (.aload_n 0, 1) := by decide +kernel
theorem dX4_readPart_23 : decode cX4_readPart 23 = .ok (.dup, 1) := by decide +kernel
theorem dX4_readPart_24 : decode cX4_readPart 24 = .ok (.getfield 35, 3) := by decide +kernel
theorem dX4_readPart_27 : decode cX4_readPart 27 = .ok (.iconst 1, 1) := by decide +kernel
theorem dX4_readPart_28 : decode cX4_readPart 28 = .ok (.iadd, 1) := by decide +kernel
theorem dX4_readPart_29 : decode cX4_readPart 29 = .ok (.putfield 35, 3) := by decide +kernel
theorem dX4_readPart_32 : decode cX4_readPart 32 = .ok (.aload_n 0, 1) := by decide +kernel
theorem dX4_readPart_33 : decode cX4_readPart 33 = .ok (.iconst 0, 1) := by decide +kernel
theorem dX4_readPart_34 : decode cX4_readPart 34 = .ok (.iload_n 1, 1) := by decide +kernel
theorem dX4_readPart_35 : decode cX4_readPart 35 = .ok (.iconst 1, 1) := by decide +kernel
theorem dX4_readPart_36 : decode cX4_readPart 36 = .ok (.iadd, 1) := by decide +kernel
theorem dX4_readPart_37 : decode cX4_readPart 37 = .ok (.invokevirtual 133, 3) := by decide +kernel
theorem dX4_readPart_40 : decode cX4_readPart 40 = .ok (.ifCond .eq 16, 3) := by decide +kernel
theorem dX4_readPart_43 : decode cX4_readPart 43 = .ok (.aload_n 0, 1) := by decide +kernel
theorem dX4_readPart_44 : decode cX4_readPart 44 = .ok (.bipush 93, 2) := by decide +kernel
theorem dX4_readPart_46 : decode cX4_readPart 46 = .ok (.invokevirtual 70, 3) := by decide +kernel
theorem dX4_readPart_49 : decode cX4_readPart 49 = .ok (.ifCond .eq 7, 3) := by decide +kernel
theorem dX4_readPart_52 : decode cX4_readPart 52 = .ok (.iconst 1, 1) := by decide +kernel
theorem dX4_readPart_53 : decode cX4_readPart 53 = .ok (.goto 4, 3) := by decide +kernel
theorem dX4_readPart_56 : decode cX4_readPart 56 = .ok (.iconst 0, 1) := by decide +kernel
theorem dX4_readPart_57 : decode cX4_readPart 57 = .ok (.ireturn, 1) := by decide +kernel
theorem dX4_readPart_58 : decode cX4_readPart 58 = .ok (.aload_n 0, 1) := by decide +kernel
theorem dX4_readPart_59 : decode cX4_readPart 59 = .ok (.getfield 44, 3) := by decide +kernel
theorem dX4_readPart_62 : decode cX4_readPart 62 = .ok (.bipush 50, 2) := by decide +kernel
theorem dX4_readPart_64 : decode cX4_readPart 64 = .ok (.if_icmp .lt 8, 3) := by decide +kernel
theorem dX4_readPart_67 : decode cX4_readPart 67 = .ok (.aload_n 0, 1) := by decide +kernel
theorem dX4_readPart_68 : decode cX4_readPart 68 = .ok (.invokevirtual 74, 3) := by decide +kernel
theorem dX4_readPart_71 : decode cX4_readPart 71 = .ok (.ireturn, 1) := by decide +kernel
theorem dX4_readPart_72 : decode cX4_readPart 72 = .ok (.aload_n 0, 1) := by decide +kernel
theorem dX4_readPart_73 : decode cX4_readPart 73 = .ok (.dup, 1) := by decide +kernel
theorem dX4_readPart_74 : decode cX4_readPart 74 = .ok (.getfield 44, 3) := by decide +kernel
theorem dX4_readPart_77 : decode cX4_readPart 77 = .ok (.iconst 1, 1) := by decide +kernel
theorem dX4_readPart_78 : decode cX4_readPart 78 = .ok (.iadd, 1) := by decide +kernel
theorem dX4_readPart_79 : decode cX4_readPart 79 = .ok (.putfield 44, 3) := by decide +kernel
theorem dX4_readPart_82 : decode cX4_readPart 82 = .ok (.iload_n 2, 1) := by decide +kernel
theorem dX4_readPart_83 : decode cX4_readPart 83 = .ok (.sipush 256, 3) := by decide +kernel
theorem dX4_readPart_86 : decode cX4_readPart 86 = .ok (.if_icmp .ne 21, 3) := by decide +kernel
theorem dX4_readPart_89 : decode cX4_readPart 89 = .ok (.aload_n 0, 1) := by decide +kernel
theorem dX4_readPart_90 : decode cX4_readPart 90 = .ok (.iconst 0, 1) := by decide +kernel
theorem dX4_readPart_91 : decode cX4_readPart 91 = .ok (.aload_n 0, 1) := by decide +kernel
theorem dX4_readPart_92 : decode cX4_readPart 92 = .ok (.invokevirtual 140, 3) := by decide +kernel
theorem dX4_readPart_95 : decode cX4_readPart 95 = .ok (.invokevirtual 156, 3) := by decide +kernel
theorem dX4_readPart_98 : decode cX4_readPart 98 = .ok (.aload_n 0, 1) := by decide +kernel
theorem dX4_readPart_99 : decode cX4_readPart 99 = .ok (.iconst 0, 1) := by decide +kernel
theorem dX4_readPart_100 : decode cX4_readPart 100 = .ok (.sipush 1000, 3) := by decide +kernel
theorem dX4_readPart_103 : decode cX4_readPart 103 = .ok (.invokevirtual 143, 3) := by decide +kernel
theorem dX4_readPart_106 : decode cX4_readPart 106 = .ok (.ireturn, 1) := by decide +kernel
theorem dX4_readPart_107 : decode cX4_readPart 107 = .ok (.aload_n 0, 1) := by decide +kernel
theorem dX4_readPart_108 : decode cX4_readPart 108 = .ok (.getfield 31, 3) := by decide +kernel
theorem dX4_readPart_111 : decode cX4_readPart 111 = .ok (.ifCond .eq 10, 3) := by decide +kernel
theorem dX4_readPart_114 : decode cX4_readPart 114 = .ok (.iload_n 2, 1) := by decide +kernel
theorem dX4_readPart_115 : decode cX4_readPart 115 = .ok (.invokestatic 172, 3) := by decide +kernel
theorem dX4_readPart_118 : decode cX4_readPart 118 = .ok (.goto 7, 3) := by decide +kernel
theorem dX4_readPart_121 : decode cX4_readPart 121 = .ok (.iload_n 2, 1) := by decide +kernel
theorem dX4_readPart_122 : decode cX4_readPart 122 = .ok (.invokestatic 175, 3) := by decide +kernel
theorem dX4_readPart_125 : decode cX4_readPart 125 = .ok (.istore_n 3, 1) := by decide +kernel
theorem dX4_readPart_126 : decode cX4_readPart 126 = .ok (.iload_n 3, 1) := by decide +kernel
theorem dX4_readPart_127 : decode cX4_readPart 127 = .ok (.iconst (-1), 1) := by decide +kernel
theorem dX4_readPart_128 : decode cX4_readPart 128 = .ok (.if_icmp .ne 8, 3) := by decide +kernel
theorem dX4_readPart_131 : decode cX4_readPart 131 = .ok (.aload_n 0, 1) := by decide +kernel
theorem dX4_readPart_132 : decode cX4_readPart 132 = .ok (.invokevirtual 74, 3) := by decide +kernel
theorem dX4_readPart_135 : decode cX4_readPart 135 = .ok (.ireturn, 1) := by decide +kernel
theorem dX4_readPart_136 : decode cX4_readPart 136 = .ok (.aload_n 0, 1) := by decide +kernel
theorem dX4_readPart_137 : decode cX4_readPart 137 = .ok (.dup, 1) := by decide +kernel
theorem dX4_readPart_138 : decode cX4_readPart 138 = .ok (.getfield 35, 3) := by decide +kernel
theorem dX4_readPart_141 : decode cX4_readPart 141 = .ok (.iconst 1, 1) := by decide +kernel
theorem dX4_readPart_142 : decode cX4_readPart 142 = .ok (.iadd, 1) := by decide +kernel
theorem dX4_readPart_143 : decode cX4_readPart 143 = .ok (.putfield 35, 3) := by decide +kernel
theorem dX4_readPart_146 : decode cX4_readPart 146 = .ok (.aload_n 0, 1) := by decide +kernel
theorem dX4_readPart_147 : decode cX4_readPart 147 = .ok (.getfield 31, 3) := by decide +kernel
theorem dX4_readPart_150 : decode cX4_readPart 150 = .ok (.ifCond .eq 7, 3) := by decide +kernel
theorem dX4_readPart_153 : decode cX4_readPart 153 = .ok (.iconst 0, 1) := by decide +kernel
theorem dX4_readPart_154 : decode cX4_readPart 154 = .ok (.goto 7, 3) := by decide +kernel
theorem dX4_readPart_157 : decode cX4_readPart 157 = .ok (.iload_n 2, 1) := by decide +kernel
theorem dX4_readPart_158 : decode cX4_readPart 158 = .ok (.invokestatic 178, 3) := by decide +kernel
theorem dX4_readPart_161 : decode cX4_readPart 161 = .ok (.istore 4, 2) := by decide +kernel
theorem dX4_readPart_163 : decode cX4_readPart 163 = .ok (.iload 4, 2) := by decide +kernel
theorem dX4_readPart_165 : decode cX4_readPart 165 = .ok (.ifCond .ne 11, 3) := by decide +kernel
theorem dX4_readPart_168 : decode cX4_readPart 168 = .ok (.aload_n 0, 1) := by decide +kernel
theorem dX4_readPart_169 : decode cX4_readPart 169 = .ok (.iconst 1, 1) := by decide +kernel
theorem dX4_readPart_170 : decode cX4_readPart 170 = .ok (.iload_n 3, 1) := by decide +kernel
theorem dX4_readPart_171 : decode cX4_readPart 171 = .ok (.invokevirtual 156, 3) := by decide +kernel
theorem dX4_readPart_174 : decode cX4_readPart 174 = .ok (.iconst 1, 1) := by decide +kernel
theorem dX4_readPart_175 : decode cX4_readPart 175 = .ok (.ireturn, 1) := by decide +kernel
theorem dX4_readPart_176 : decode cX4_readPart 176 = .ok (.aload_n 0, 1) := by decide +kernel
theorem dX4_readPart_177 : decode cX4_readPart 177 = .ok (.iconst 1, 1) := by decide +kernel
theorem dX4_readPart_178 : decode cX4_readPart 178 = .ok (.iload_n 3, 1) := by decide +kernel
theorem dX4_readPart_179 : decode cX4_readPart 179 = .ok (.aload_n 0, 1) := by decide +kernel
theorem dX4_readPart_180 : decode cX4_readPart 180 = .ok (.invokevirtual 140, 3) := by decide +kernel
theorem dX4_readPart_183 : decode cX4_readPart 183 = .ok (.iadd, 1) := by decide +kernel
theorem dX4_readPart_184 : decode cX4_readPart 184 = .ok (.invokevirtual 156, 3) := by decide +kernel
theorem dX4_readPart_187 : decode cX4_readPart 187 = .ok (.aload_n 0, 1) := by decide +kernel
theorem dX4_readPart_188 : decode cX4_readPart 188 = .ok (.iconst 0, 1) := by decide +kernel
theorem dX4_readPart_189 : decode cX4_readPart 189 = .ok (.iload 4, 2) := by decide +kernel
theorem dX4_readPart_191 : decode cX4_readPart 191 = .ok (.iconst 1, 1) := by decide +kernel
theorem dX4_readPart_192 : decode cX4_readPart 192 = .ok (.isub, 1) := by decide +kernel
theorem dX4_readPart_193 : decode cX4_readPart 193 = .ok (.invokevirtual 143, 3) := by decide +kernel
theorem dX4_readPart_196 : decode cX4_readPart 196 = .ok (.ireturn, 1) := by decide +kernel
theorem dX4_lawWordOf_0 : decode cX4_lawWordOf 0 = .ok (.iload_n 0, 1) := by decide +kernel
theorem dX4_lawWordOf_1 : decode cX4_lawWordOf 1 = .ok (.sipush 307, 3) := by decide +kernel
theorem dX4_lawWordOf_4 : decode cX4_lawWordOf 4 = .ok (.if_icmp .lt 18, 3) := by decide +kernel
theorem dX4_lawWordOf_7 : decode cX4_lawWordOf 7 = .ok (.iload_n 0, 1) := by decide +kernel
theorem dX4_lawWordOf_8 : decode cX4_lawWordOf 8 = .ok (.sipush 315, 3) := by decide +kernel
theorem dX4_lawWordOf_11 : decode cX4_lawWordOf 11 = .ok (.if_icmp .gt 11, 3) := by decide +kernel
theorem dX4_lawWordOf_14 : decode cX4_lawWordOf 14 = .ok (.iload_n 0, 1) := by decide +kernel
theorem dX4_lawWordOf_15 : decode cX4_lawWordOf 15 = .ok (.sipush 307, 3) := by decide +kernel
theorem dX4_lawWordOf_18 : decode cX4_lawWordOf 18 = .ok (.isub, 1) := by decide +kernel
theorem dX4_lawWordOf_19 : decode cX4_lawWordOf 19 = .ok (.goto 4, 3) := by decide +kernel
theorem dX4_lawWordOf_22 : decode cX4_lawWordOf 22 = .ok (.iconst (-1), 1) := by decide +kernel
theorem dX4_lawWordOf_23 : decode cX4_lawWordOf 23 = .ok (.ireturn, 1) := by decide +kernel
theorem dX4_orderWordOf_0 : decode cX4_orderWordOf 0 = .ok (.iload_n 0, 1) := by decide +kernel
theorem dX4_orderWordOf_1 : decode cX4_orderWordOf 1 = .ok (.tableswitch 117 307 327 #[111, 107, 99, 117, 117, 117, 117, 117, 117, 117, 117, 117, 109, 117, 117, 117, 117, 101, 103, 105, 114], 99) := by decide +kernel
theorem dX4_orderWordOf_100 : decode cX4_orderWordOf 100 = .ok (.iconst 0, 1) := by decide +kernel
theorem dX4_orderWordOf_101 : decode cX4_orderWordOf 101 = .ok (.ireturn, 1) := by decide +kernel
theorem dX4_orderWordOf_102 : decode cX4_orderWordOf 102 = .ok (.iconst 1, 1) := by decide +kernel
theorem dX4_orderWordOf_103 : decode cX4_orderWordOf 103 = .ok (.ireturn, 1) := by decide +kernel
theorem dX4_orderWordOf_104 : decode cX4_orderWordOf 104 = .ok (.iconst 2, 1) := by decide +kernel
theorem dX4_orderWordOf_105 : decode cX4_orderWordOf 105 = .ok (.ireturn, 1) := by decide +kernel
theorem dX4_orderWordOf_106 : decode cX4_orderWordOf 106 = .ok (.iconst 3, 1) := by decide +kernel
theorem dX4_orderWordOf_107 : decode cX4_orderWordOf 107 = .ok (.ireturn, 1) := by decide +kernel
theorem dX4_orderWordOf_108 : decode cX4_orderWordOf 108 = .ok (.iconst 4, 1) := by decide +kernel
theorem dX4_orderWordOf_109 : decode cX4_orderWordOf 109 = .ok (.ireturn, 1) := by decide +kernel
theorem dX4_orderWordOf_110 : decode cX4_orderWordOf 110 = .ok (.iconst 5, 1) := by decide +kernel
theorem dX4_orderWordOf_111 : decode cX4_orderWordOf 111 = .ok (.ireturn, 1) := by decide +kernel
theorem dX4_orderWordOf_112 : decode cX4_orderWordOf 112 = .ok (.bipush 9, 2) := by decide +kernel
theorem dX4_orderWordOf_114 : decode cX4_orderWordOf 114 = .ok (.ireturn, 1) := by decide +kernel
theorem dX4_orderWordOf_115 : decode cX4_orderWordOf 115 = .ok (.bipush 12, 2) := by decide +kernel
theorem dX4_orderWordOf_117 : decode cX4_orderWordOf 117 = .ok (.ireturn, 1) := by decide +kernel
theorem dX4_orderWordOf_118 : decode cX4_orderWordOf 118 = .ok (.iconst (-1), 1) := by decide +kernel
theorem dX4_orderWordOf_119 : decode cX4_orderWordOf 119 = .ok (.ireturn, 1) := by decide +kernel
theorem dX4_manyOf_0 : decode cX4_manyOf 0 = .ok (.iload_n 0, 1) := by decide +kernel
theorem dX4_manyOf_1 : decode cX4_manyOf 1 = .ok (.lookupswitch 42 #[(307, 37), (319, 35), (327, 39)], 35) := by decide +kernel
theorem dX4_manyOf_36 : decode cX4_manyOf 36 = .ok (.iconst 4, 1) := by decide +kernel
theorem dX4_manyOf_37 : decode cX4_manyOf 37 = .ok (.ireturn, 1) := by decide +kernel
theorem dX4_manyOf_38 : decode cX4_manyOf 38 = .ok (.iconst 3, 1) := by decide +kernel
theorem dX4_manyOf_39 : decode cX4_manyOf 39 = .ok (.ireturn, 1) := by decide +kernel
theorem dX4_manyOf_40 : decode cX4_manyOf 40 = .ok (.bipush 6, 2) := by decide +kernel
theorem dX4_manyOf_42 : decode cX4_manyOf 42 = .ok (.ireturn, 1) := by decide +kernel
theorem dX4_manyOf_43 : decode cX4_manyOf 43 = .ok (.iconst 0, 1) := by decide +kernel
theorem dX4_manyOf_44 : decode cX4_manyOf 44 = .ok (.ireturn, 1) := by decide +kernel
theorem dX5_init_0 : decode cX5_init 0 = .ok (.aload_n 0, 1) := by decide +kernel
theorem dX5_init_1 : decode cX5_init 1 = .ok (.invokespecial 3, 3) := by decide +kernel
theorem dX5_init_4 : decode cX5_init 4 = .ok (.aload_n 0, 1) := by decide +kernel
theorem dX5_init_5 : decode cX5_init 5 = .ok (.bipush 18, 2) := by decide +kernel
theorem dX5_init_7 : decode cX5_init 7 = .ok (.newarray .int, 2) := by decide +kernel
theorem dX5_init_9 : decode cX5_init 9 = .ok (.putfield 9, 3) := by decide +kernel
theorem dX5_init_12 : decode cX5_init 12 = .ok (.aload_n 0, 1) := by decide +kernel
theorem dX5_init_13 : decode cX5_init 13 = .ok (.bipush 64, 2) := by decide +kernel
theorem dX5_init_15 : decode cX5_init 15 = .ok (.newarray .long, 2) := by decide +kernel
theorem dX5_init_17 : decode cX5_init 17 = .ok (.putfield 15, 3) := by decide +kernel
theorem dX5_init_20 : decode cX5_init 20 = .ok (.return_, 1) := by decide +kernel
theorem dX5_tellLawWords_0 : decode cX5_tellLawWords 0 = .ok (.aload_n 0, 1) := by decide +kernel
theorem dX5_tellLawWords_1 : decode cX5_tellLawWords 1 = .ok (.getfield 9, 3) := by decide +kernel
theorem dX5_tellLawWords_4 : decode cX5_tellLawWords 4 = .ok (.iconst (-1), 1) := by decide +kernel
theorem dX5_tellLawWords_5 : decode cX5_tellLawWords 5 = .ok (.invokestatic 19, 3) := by decide +kernel
theorem dX5_tellLawWords_8 : decode cX5_tellLawWords 8 = .ok (.aload_n 0, 1) := by decide +kernel
theorem dX5_tellLawWords_9 : decode cX5_tellLawWords 9 = .ok (.getfield 9, 3) := by decide +kernel
theorem dX5_tellLawWords_12 : decode cX5_tellLawWords 12 = .ok (.iconst 0, 1) := by decide +kernel
theorem dX5_tellLawWords_13 : decode cX5_tellLawWords 13 = .ok (.iload_n 1, 1) := by decide +kernel
theorem dX5_tellLawWords_14 : decode cX5_tellLawWords 14 = .ok (.iastore, 1) := by decide +kernel
theorem dX5_tellLawWords_15 : decode cX5_tellLawWords 15 = .ok (.aload_n 0, 1) := by decide +kernel
theorem dX5_tellLawWords_16 : decode cX5_tellLawWords 16 = .ok (.getfield 9, 3) := by decide +kernel
theorem dX5_tellLawWords_19 : decode cX5_tellLawWords 19 = .ok (.iconst 1, 1) := by decide +kernel
theorem dX5_tellLawWords_20 : decode cX5_tellLawWords 20 = .ok (.iload_n 2, 1) := by decide +kernel
theorem dX5_tellLawWords_21 : decode cX5_tellLawWords 21 = .ok (.bipush 24, 2) := by decide +kernel
theorem dX5_tellLawWords_23 : decode cX5_tellLawWords 23 = .ok (.irem, 1) := by decide +kernel
theorem dX5_tellLawWords_24 : decode cX5_tellLawWords 24 = .ok (.iastore, 1) := by decide +kernel
theorem dX5_tellLawWords_25 : decode cX5_tellLawWords 25 = .ok (.aload_n 0, 1) := by decide +kernel
theorem dX5_tellLawWords_26 : decode cX5_tellLawWords 26 = .ok (.getfield 9, 3) := by decide +kernel
theorem dX5_tellLawWords_29 : decode cX5_tellLawWords 29 = .ok (.iconst 2, 1) := by decide +kernel
theorem dX5_tellLawWords_30 : decode cX5_tellLawWords 30 = .ok (.iload_n 2, 1) := by decide +kernel
theorem dX5_tellLawWords_31 : decode cX5_tellLawWords 31 = .ok (.iastore, 1) := by decide +kernel
theorem dX5_tellLawWords_32 : decode cX5_tellLawWords 32 = .ok (.aload_n 0, 1) := by decide +kernel
theorem dX5_tellLawWords_33 : decode cX5_tellLawWords 33 = .ok (.getfield 9, 3) := by decide +kernel
theorem dX5_tellLawWords_36 : decode cX5_tellLawWords 36 = .ok (.bipush 8, 2) := by decide +kernel
theorem dX5_tellLawWords_38 : decode cX5_tellLawWords 38 = .ok (.iload_n 3, 1) := by decide +kernel
theorem dX5_tellLawWords_39 : decode cX5_tellLawWords 39 = .ok (.iastore, 1) := by decide +kernel
theorem dX5_tellLawWords_40 : decode cX5_tellLawWords 40 = .ok (.return_, 1) := by decide +kernel
theorem dX5_value_0 : decode cX5_value 0 = .ok (.iconst 0, 1) := by decide +kernel
theorem dX5_value_1 : decode cX5_value 1 = .ok (.istore 4, 2) := by decide +kernel
theorem dX5_value_3 : decode cX5_value 3 = .ok (.iload_n 2, 1) := by decide +kernel
theorem dX5_value_4 : decode cX5_value 4 = .ok (.iconst 0, 1) := by decide +kernel
theorem dX5_value_5 : decode cX5_value 5 = .ok (.invokestatic 25, 3) := by decide +kernel
theorem dX5_value_8 : decode cX5_value 8 = .ok (.istore 5, 2) := by decide +kernel
theorem dX5_value_10 : decode cX5_value 10 = .ok (.iload 5, 2) := by decide +kernel
theorem dX5_value_12 : decode cX5_value 12 = .ok (.iload_n 3, 1) := by decide +kernel
theorem dX5_value_13 : decode cX5_value 13 = .ok (.if_icmp .ge 278, 3) := by decide +kernel
theorem dX5_value_16 : decode cX5_value 16 = .ok (.iload 5, 2) := by decide +kernel
theorem dX5_value_18 : decode cX5_value 18 = .ok (.aload_n 1, 1) := by decide +kernel
theorem dX5_value_19 : decode cX5_value 19 = .ok (.arraylength, 1) := by decide +kernel
theorem dX5_value_20 : decode cX5_value 20 = .ok (.if_icmp .ge 271, 3) := by decide +kernel
theorem dX5_value_23 : decode cX5_value 23 = .ok (.aload_n 1, 1) := by decide +kernel
theorem dX5_value_24 : decode cX5_value 24 = .ok (.iload 5, 2) := by decide +kernel
theorem dX5_value_26 : decode cX5_value 26 = .ok (.iaload, 1) := by decide +kernel
theorem dX5_value_27 : decode cX5_value 27 = .ok (.bipush 15, 2) := by decide +kernel
theorem dX5_value_29 : decode cX5_value 29 = .ok (.iand, 1) := by decide +kernel
theorem dX5_value_30 : decode cX5_value 30 = .ok (.istore 6, 2) := by decide +kernel
theorem dX5_value_32 : decode cX5_value 32 = .ok (.aload_n 1, 1) := by decide +kernel
theorem dX5_value_33 : decode cX5_value 33 = .ok (.iload 5, 2) := by decide +kernel
theorem dX5_value_35 : decode cX5_value 35 = .ok (.iaload, 1) := by decide +kernel
theorem dX5_value_36 : decode cX5_value 36 = .ok (.iconst 4, 1) := by decide +kernel
theorem dX5_value_37 : decode cX5_value 37 = .ok (.ishr, 1) := by decide +kernel
theorem dX5_value_38 : decode cX5_value 38 = .ok (.istore 7, 2) := by decide +kernel
theorem dX5_value_40 : decode cX5_value 40 = .ok (.iload 6, 2) := by decide +kernel
theorem dX5_value_42 : decode cX5_value 42 = .ok (.ifCond .eq 9, 3) := by decide +kernel
theorem dX5_value_45 : decode cX5_value 45 = .ok (.iload 6, 2) := by decide +kernel
theorem dX5_value_47 : decode cX5_value 47 = .ok (.iconst 1, 1) := by decide +kernel
theorem dX5_value_48 : decode cX5_value 48 = .ok (.if_icmp .ne 70, 3) := by decide +kernel
theorem dX5_value_51 : decode cX5_value 51 = .ok (.iload 4, 2) := by decide +kernel
theorem dX5_value_53 : decode cX5_value 53 = .ok (.aload_n 0, 1) := by decide +kernel
theorem dX5_value_54 : decode cX5_value 54 = .ok (.getfield 15, 3) := by decide +kernel
theorem dX5_value_57 : decode cX5_value 57 = .ok (.arraylength, 1) := by decide +kernel
theorem dX5_value_58 : decode cX5_value 58 = .ok (.if_icmp .ge 24, 3) := by decide +kernel
theorem dX5_value_61 : decode cX5_value 61 = .ok (.iload 6, 2) := by decide +kernel
theorem dX5_value_63 : decode cX5_value 63 = .ok (.iconst 1, 1) := by decide +kernel
theorem dX5_value_64 : decode cX5_value 64 = .ok (.if_icmp .ne 22, 3) := by decide +kernel
theorem dX5_value_67 : decode cX5_value 67 = .ok (.iload 7, 2) := by decide +kernel
theorem dX5_value_69 : decode cX5_value 69 = .ok (.ifCond .lt 13, 3) := by decide +kernel
theorem dX5_value_72 : decode cX5_value 72 = .ok (.iload 7, 2) := by decide +kernel
theorem dX5_value_74 : decode cX5_value 74 = .ok (.aload_n 0, 1) := by decide +kernel
theorem dX5_value_75 : decode cX5_value 75 = .ok (.getfield 9, 3) := by decide +kernel
theorem dX5_value_78 : decode cX5_value 78 = .ok (.arraylength, 1) := by decide +kernel
theorem dX5_value_79 : decode cX5_value 79 = .ok (.if_icmp .lt 7, 3) := by decide +kernel
theorem dX5_value_82 : decode cX5_value 82 = .ok (.ldc2_w 31, 3) := by decide +kernel
theorem dX5_value_85 : decode cX5_value 85 = .ok (.lreturn, 1) := by decide +kernel
theorem dX5_value_86 : decode cX5_value 86 = .ok (.aload_n 0, 1) := by decide +kernel
theorem dX5_value_87 : decode cX5_value 87 = .ok (.getfield 15, 3) := by decide +kernel
theorem dX5_value_90 : decode cX5_value 90 = .ok (.iload 4, 2) := by decide +kernel
theorem dX5_value_92 : decode cX5_value 92 = .ok (.iinc 4 1, 3) := by decide +kernel
theorem dX5_value_95 : decode cX5_value 95 = .ok (.iload 6, 2) := by decide +kernel
theorem dX5_value_97 : decode cX5_value 97 = .ok (.ifCond .ne 9, 3) := by decide +kernel
theorem dX5_value_100 : decode cX5_value 100 = .ok (.iload 7, 2) := by decide +kernel
theorem dX5_value_102 : decode cX5_value 102 = .ok (.i2l, 1) := by decide +kernel
theorem dX5_value_103 : decode cX5_value 103 = .ok (.goto 11, 3) := by decide +kernel
theorem dX5_value_106 : decode cX5_value 106 = .ok (.aload_n 0, 1) := by decide +kernel
theorem dX5_value_107 : decode cX5_value 107 = .ok (.getfield 9, 3) := by decide +kernel
theorem dX5_value_110 : decode cX5_value 110 = .ok (.iload 7, 2) := by decide +kernel
theorem dX5_value_112 : decode cX5_value 112 = .ok (.iaload, 1) := by decide +kernel
theorem dX5_value_113 : decode cX5_value 113 = .ok (.i2l, 1) := by decide +kernel
theorem dX5_value_114 : decode cX5_value 114 = .ok (.lastore, 1) := by decide +kernel
theorem dX5_value_115 : decode cX5_value 115 = .ok (.goto 170, 3) := by decide +kernel
theorem dX5_value_118 : decode cX5_value 118 = .ok (.iload 6, 2) := by decide +kernel
theorem dX5_value_120 : decode cX5_value 120 = .ok (.bipush 10, 2) := by decide +kernel
theorem dX5_value_122 : decode cX5_value 122 = .ok (.if_icmp .lt 100, 3) := by decide +kernel
theorem dX5_value_125 : decode cX5_value 125 = .ok (.iload 4, 2) := by decide +kernel
theorem dX5_value_127 : decode cX5_value 127 = .ok (.iconst 1, 1) := by decide +kernel
theorem dX5_value_128 : decode cX5_value 128 = .ok (.if_icmp .ge 7, 3) := by decide +kernel
theorem dX5_value_131 : decode cX5_value 131 = .ok (.ldc2_w 31, 3) := by decide +kernel
theorem dX5_value_134 : decode cX5_value 134 = .ok (.lreturn, 1) := by decide +kernel
theorem dX5_value_135 : decode cX5_value 135 = .ok (.aload_n 0, 1) := by decide +kernel
theorem dX5_value_136 : decode cX5_value 136 = .ok (.getfield 15, 3) := by decide +kernel
theorem dX5_value_139 : decode cX5_value 139 = .ok (.iload 4, 2) := by decide +kernel
theorem dX5_value_141 : decode cX5_value 141 = .ok (.iconst 1, 1) := by decide +kernel
theorem dX5_value_142 : decode cX5_value 142 = .ok (.isub, 1) := by decide +kernel
theorem dX5_value_143 : decode cX5_value 143 = .ok (.laload, 1) := by decide +kernel
theorem dX5_value_144 : decode cX5_value 144 = .ok (.lconst 1, 1) := by decide +kernel
theorem dX5_value_145 : decode cX5_value 145 = .ok (.lcmp, 1) := by decide +kernel
theorem dX5_value_146 : decode cX5_value 146 = .ok (.ifCond .ne 7, 3) := by decide +kernel
theorem dX5_value_149 : decode cX5_value 149 = .ok (.iconst 1, 1) := by decide +kernel
theorem dX5_value_150 : decode cX5_value 150 = .ok (.goto 4, 3) := by decide +kernel
theorem dX5_value_153 : decode cX5_value 153 = .ok (.iconst 0, 1) := by decide +kernel
theorem dX5_value_154 : decode cX5_value 154 = .ok (.istore 8, 2) := by decide +kernel
theorem dX5_value_156 : decode cX5_value 156 = .ok (.iload 6, 2) := by decide +kernel
theorem dX5_value_158 : decode cX5_value 158 = .ok (.bipush 10, 2) := by decide +kernel
theorem dX5_value_160 : decode cX5_value 160 = .ok (.if_icmp .ne 25, 3) := by decide +kernel
theorem dX5_value_163 : decode cX5_value 163 = .ok (.aload_n 0, 1) := by decide +kernel
theorem dX5_value_164 : decode cX5_value 164 = .ok (.getfield 15, 3) := by decide +kernel
theorem dX5_value_167 : decode cX5_value 167 = .ok (.iload 4, 2) := by decide +kernel
theorem dX5_value_169 : decode cX5_value 169 = .ok (.iconst 1, 1) := by decide +kernel
theorem dX5_value_170 : decode cX5_value 170 = .ok (.isub, 1) := by decide +kernel
theorem dX5_value_171 : decode cX5_value 171 = .ok (.iload 8, 2) := by decide +kernel
theorem dX5_value_173 : decode cX5_value 173 = .ok (.ifCond .eq 7, 3) := by decide +kernel
theorem dX5_value_176 : decode cX5_value 176 = .ok (.lconst 0, 1) := by decide +kernel
theorem dX5_value_177 : decode cX5_value 177 = .ok (.goto 4, 3) := by decide +kernel
theorem dX5_value_180 : decode cX5_value 180 = .ok (.lconst 1, 1) := by decide +kernel
theorem dX5_value_181 : decode cX5_value 181 = .ok (.lastore, 1) := by decide +kernel
theorem dX5_value_182 : decode cX5_value 182 = .ok (.goto 37, 3) := by decide +kernel
theorem dX5_value_185 : decode cX5_value 185 = .ok (.iload 8, 2) := by decide +kernel
theorem dX5_value_187 : decode cX5_value 187 = .ok (.iload 6, 2) := by decide +kernel
theorem dX5_value_189 : decode cX5_value 189 = .ok (.bipush 11, 2) := by decide +kernel
theorem dX5_value_191 : decode cX5_value 191 = .ok (.if_icmp .ne 7, 3) := by decide +kernel
theorem dX5_value_194 : decode cX5_value 194 = .ok (.iconst 1, 1) := by decide +kernel
theorem dX5_value_195 : decode cX5_value 195 = .ok (.goto 4, 3) := by decide +kernel
theorem dX5_value_198 : decode cX5_value 198 = .ok (.iconst 0, 1) := by decide +kernel
theorem dX5_value_199 : decode cX5_value 199 = .ok (.if_icmp .ne 17, 3) := by decide +kernel
theorem dX5_value_202 : decode cX5_value 202 = .ok (.iload 5, 2) := by decide +kernel
theorem dX5_value_204 : decode cX5_value 204 = .ok (.iload 7, 2) := by decide +kernel
theorem dX5_value_206 : decode cX5_value 206 = .ok (.iconst 1, 1) := by decide +kernel
theorem dX5_value_207 : decode cX5_value 207 = .ok (.isub, 1) := by decide +kernel
theorem dX5_value_208 : decode cX5_value 208 = .ok (.invokestatic 25, 3) := by decide +kernel
theorem dX5_value_211 : decode cX5_value 211 = .ok (.istore 5, 2) := by decide +kernel
theorem dX5_value_213 : decode cX5_value 213 = .ok (.goto 6, 3) := by decide +kernel
theorem dX5_value_216 : decode cX5_value 216 = .ok (.iinc 4 (-1), 3) := by decide +kernel
theorem dX5_value_219 : decode cX5_value 219 = .ok (.goto 66, 3) := by decide +kernel
theorem dX5_value_222 : decode cX5_value 222 = .ok (.iload 4, 2) := by decide +kernel
theorem dX5_value_224 : decode cX5_value 224 = .ok (.iconst 2, 1) := by decide +kernel
theorem dX5_value_225 : decode cX5_value 225 = .ok (.if_icmp .ge 7, 3) := by decide +kernel
theorem dX5_value_228 : decode cX5_value 228 = .ok (.ldc2_w 31, 3) := by decide +kernel
theorem dX5_value_231 : decode cX5_value 231 = .ok (.lreturn, 1) := by decide +kernel
theorem dX5_value_232 : decode cX5_value 232 = .ok (.iinc 4 (-1), 3) := by decide +kernel
theorem dX5_value_235 : decode cX5_value 235 = .ok (.aload_n 0, 1) := by decide +kernel
theorem dX5_value_236 : decode cX5_value 236 = .ok (.getfield 15, 3) := by decide +kernel
theorem dX5_value_239 : decode cX5_value 239 = .ok (.iload 4, 2) := by decide +kernel
theorem dX5_value_241 : decode cX5_value 241 = .ok (.iconst 1, 1) := by decide +kernel
theorem dX5_value_242 : decode cX5_value 242 = .ok (.isub, 1) := by decide +kernel
theorem dX5_value_243 : decode cX5_value 243 = .ok (.iload 6, 2) := by decide +kernel
theorem dX5_value_245 : decode cX5_value 245 = .ok (.aload_n 0, 1) := by decide +kernel
theorem dX5_value_246 : decode cX5_value 246 = .ok (.getfield 15, 3) := by decide +kernel
theorem dX5_value_249 : decode cX5_value 249 = .ok (.iload 4, 2) := by decide +kernel
theorem dX5_value_251 : decode cX5_value 251 = .ok (.iconst 1, 1) := by decide +kernel
theorem dX5_value_252 : decode cX5_value 252 = .ok (.isub, 1) := by decide +kernel
theorem dX5_value_253 : decode cX5_value 253 = .ok (.laload, 1) := by decide +kernel
theorem dX5_value_254 : decode cX5_value 254 = .ok (.aload_n 0, 1) := by decide +kernel
theorem dX5_value_255 : decode cX5_value 255 = .ok (.getfield 15, 3) := by decide +kernel
theorem dX5_value_258 : decode cX5_value 258 = .ok (.iload 4, 2) := by decide +kernel
theorem dX5_value_260 : decode cX5_value 260 = .ok (.laload, 1) := by decide +kernel
theorem dX5_value_261 : decode cX5_value 261 = .ok (.invokestatic 33, 3) := by decide +kernel
theorem dX5_value_264 : decode cX5_value 264 = .ok (.lastore, 1) := by decide +kernel
theorem dX5_value_265 : decode cX5_value 265 = .ok (.aload_n 0, 1) := by decide +kernel
theorem dX5_value_266 : decode cX5_value 266 = .ok (.getfield 15, 3) := by decide +kernel
theorem dX5_value_269 : decode cX5_value 269 = .ok (.iload 4, 2) := by decide +kernel
theorem dX5_value_271 : decode cX5_value 271 = .ok (.iconst 1, 1) := by decide +kernel
theorem dX5_value_272 : decode cX5_value 272 = .ok (.isub, 1) := by decide +kernel
theorem dX5_value_273 : decode cX5_value 273 = .ok (.laload, 1) := by decide +kernel
theorem dX5_value_274 : decode cX5_value 274 = .ok (.ldc2_w 31, 3) := by decide +kernel
theorem dX5_value_277 : decode cX5_value 277 = .ok (.lcmp, 1) := by decide +kernel
theorem dX5_value_278 : decode cX5_value 278 = .ok (.ifCond .ne 7, 3) := by decide +kernel
theorem dX5_value_281 : decode cX5_value 281 = .ok (.ldc2_w 31, 3) := by decide +kernel
theorem dX5_value_284 : decode cX5_value 284 = .ok (.lreturn, 1) := by decide +kernel
theorem dX5_value_285 : decode cX5_value 285 = .ok (.iinc 5 1, 3) := by decide +kernel
theorem dX5_value_288 : decode cX5_value 288 = .ok (.goto (-278), 3) := by decide +kernel
theorem dX5_value_291 : decode cX5_value 291 = .ok (.iload 4, 2) := by decide +kernel
theorem dX5_value_293 : decode cX5_value 293 = .ok (.iconst 1, 1) := by decide +kernel
theorem dX5_value_294 : decode cX5_value 294 = .ok (.if_icmp .ne 12, 3) := by decide +kernel
theorem dX5_value_297 : decode cX5_value 297 = .ok (.aload_n 0, 1) := by decide +kernel
theorem dX5_value_298 : decode cX5_value 298 = .ok (.getfield 15, 3) := by decide +kernel
theorem dX5_value_301 : decode cX5_value 301 = .ok (.iconst 0, 1) := by decide +kernel
theorem dX5_value_302 : decode cX5_value 302 = .ok (.laload, 1) := by decide +kernel
theorem dX5_value_303 : decode cX5_value 303 = .ok (.goto 6, 3) := by decide +kernel
theorem dX5_value_306 : decode cX5_value 306 = .ok (.ldc2_w 31, 3) := by decide +kernel
theorem dX5_value_309 : decode cX5_value 309 = .ok (.lreturn, 1) := by decide +kernel
theorem dX5_joined_0 : decode cX5_joined 0 = .ok (.iload_n 0, 1) := by decide +kernel
theorem dX5_joined_1 : decode cX5_joined 1 = .ok (.tableswitch 127 2 8 #[43, 51, 59, 67, 85, 103, 115], 43) := by decide +kernel
theorem dX5_joined_44 : decode cX5_joined 44 = .ok (.lload_n 1, 1) := by decide +kernel
theorem dX5_joined_45 : decode cX5_joined 45 = .ok (.lload_n 3, 1) := by decide +kernel
theorem dX5_joined_46 : decode cX5_joined 46 = .ok (.ladd, 1) := by decide +kernel
theorem dX5_joined_47 : decode cX5_joined 47 = .ok (.lstore 5, 2) := by decide +kernel
theorem dX5_joined_49 : decode cX5_joined 49 = .ok (.goto 91, 3) := by decide +kernel
theorem dX5_joined_52 : decode cX5_joined 52 = .ok (.lload_n 1, 1) := by decide +kernel
theorem dX5_joined_53 : decode cX5_joined 53 = .ok (.lload_n 3, 1) := by decide +kernel
theorem dX5_joined_54 : decode cX5_joined 54 = .ok (.lsub, 1) := by decide +kernel
theorem dX5_joined_55 : decode cX5_joined 55 = .ok (.lstore 5, 2) := by decide +kernel
theorem dX5_joined_57 : decode cX5_joined 57 = .ok (.goto 83, 3) := by decide +kernel
theorem dX5_joined_60 : decode cX5_joined 60 = .ok (.lload_n 1, 1) := by decide +kernel
theorem dX5_joined_61 : decode cX5_joined 61 = .ok (.lload_n 3, 1) := by decide +kernel
theorem dX5_joined_62 : decode cX5_joined 62 = .ok (.lmul, 1) := by decide +kernel
theorem dX5_joined_63 : decode cX5_joined 63 = .ok (.lstore 5, 2) := by decide +kernel
theorem dX5_joined_65 : decode cX5_joined 65 = .ok (.goto 75, 3) := by decide +kernel
theorem dX5_joined_68 : decode cX5_joined 68 = .ok (.lload_n 3, 1) := by decide +kernel
theorem dX5_joined_69 : decode cX5_joined 69 = .ok (.lconst 0, 1) := by decide +kernel
theorem dX5_joined_70 : decode cX5_joined 70 = .ok (.lcmp, 1) := by decide +kernel
theorem dX5_joined_71 : decode cX5_joined 71 = .ok (.ifCond .ne 7, 3) := by decide +kernel
theorem dX5_joined_74 : decode cX5_joined 74 = .ok (.ldc2_w 31, 3) := by decide +kernel
theorem dX5_joined_77 : decode cX5_joined 77 = .ok (.lreturn, 1) := by decide +kernel
theorem dX5_joined_78 : decode cX5_joined 78 = .ok (.lload_n 1, 1) := by decide +kernel
theorem dX5_joined_79 : decode cX5_joined 79 = .ok (.lload_n 3, 1) := by decide +kernel
theorem dX5_joined_80 : decode cX5_joined 80 = .ok (.ldiv, 1) := by decide +kernel
theorem dX5_joined_81 : decode cX5_joined 81 = .ok (.lstore 5, 2) := by decide +kernel
theorem dX5_joined_83 : decode cX5_joined 83 = .ok (.goto 57, 3) := by decide +kernel
theorem dX5_joined_86 : decode cX5_joined 86 = .ok (.lload_n 3, 1) := by decide +kernel
theorem dX5_joined_87 : decode cX5_joined 87 = .ok (.lconst 0, 1) := by decide +kernel
theorem dX5_joined_88 : decode cX5_joined 88 = .ok (.lcmp, 1) := by decide +kernel
theorem dX5_joined_89 : decode cX5_joined 89 = .ok (.ifCond .ne 7, 3) := by decide +kernel
theorem dX5_joined_92 : decode cX5_joined 92 = .ok (.ldc2_w 31, 3) := by decide +kernel
theorem dX5_joined_95 : decode cX5_joined 95 = .ok (.lreturn, 1) := by decide +kernel
theorem dX5_joined_96 : decode cX5_joined 96 = .ok (.lload_n 1, 1) := by decide +kernel
theorem dX5_joined_97 : decode cX5_joined 97 = .ok (.lload_n 3, 1) := by decide +kernel
theorem dX5_joined_98 : decode cX5_joined 98 = .ok (.lrem, 1) := by decide +kernel
theorem dX5_joined_99 : decode cX5_joined 99 = .ok (.lstore 5, 2) := by decide +kernel
theorem dX5_joined_101 : decode cX5_joined 101 = .ok (.goto 39, 3) := by decide +kernel
theorem dX5_joined_104 : decode cX5_joined 104 = .ok (.lload_n 1, 1) := by decide +kernel
theorem dX5_joined_105 : decode cX5_joined 105 = .ok (.lload_n 3, 1) := by decide +kernel
theorem dX5_joined_106 : decode cX5_joined 106 = .ok (.lcmp, 1) := by decide +kernel
theorem dX5_joined_107 : decode cX5_joined 107 = .ok (.ifCond .ge 7, 3) := by decide +kernel
theorem dX5_joined_110 : decode cX5_joined 110 = .ok (.lconst 1, 1) := by decide +kernel
theorem dX5_joined_111 : decode cX5_joined 111 = .ok (.goto 4, 3) := by decide +kernel
theorem dX5_joined_114 : decode cX5_joined 114 = .ok (.lconst 0, 1) := by decide +kernel
theorem dX5_joined_115 : decode cX5_joined 115 = .ok (.lreturn, 1) := by decide +kernel
theorem dX5_joined_116 : decode cX5_joined 116 = .ok (.lload_n 1, 1) := by decide +kernel
theorem dX5_joined_117 : decode cX5_joined 117 = .ok (.lload_n 3, 1) := by decide +kernel
theorem dX5_joined_118 : decode cX5_joined 118 = .ok (.lcmp, 1) := by decide +kernel
theorem dX5_joined_119 : decode cX5_joined 119 = .ok (.ifCond .le 7, 3) := by decide +kernel
theorem dX5_joined_122 : decode cX5_joined 122 = .ok (.lconst 1, 1) := by decide +kernel
theorem dX5_joined_123 : decode cX5_joined 123 = .ok (.goto 4, 3) := by decide +kernel
theorem dX5_joined_126 : decode cX5_joined 126 = .ok (.lconst 0, 1) := by decide +kernel
theorem dX5_joined_127 : decode cX5_joined 127 = .ok (.lreturn, 1) := by decide +kernel
theorem dX5_joined_128 : decode cX5_joined 128 = .ok (.lload_n 1, 1) := by decide +kernel
theorem dX5_joined_129 : decode cX5_joined 129 = .ok (.lload_n 3, 1) := by decide +kernel
theorem dX5_joined_130 : decode cX5_joined 130 = .ok (.lcmp, 1) := by decide +kernel
theorem dX5_joined_131 : decode cX5_joined 131 = .ok (.ifCond .ne 7, 3) := by decide +kernel
theorem dX5_joined_134 : decode cX5_joined 134 = .ok (.lconst 1, 1) := by decide +kernel
theorem dX5_joined_135 : decode cX5_joined 135 = .ok (.goto 4, 3) := by decide +kernel
theorem dX5_joined_138 : decode cX5_joined 138 = .ok (.lconst 0, 1) := by decide +kernel
theorem dX5_joined_139 : decode cX5_joined 139 = .ok (.lreturn, 1) := by decide +kernel
theorem dX5_joined_140 : decode cX5_joined 140 = .ok (.lload 5, 2) := by decide +kernel
theorem dX5_joined_142 : decode cX5_joined 142 = .ok (.ldc2_w 37, 3) := by decide +kernel
theorem dX5_joined_145 : decode cX5_joined 145 = .ok (.lcmp, 1) := by decide +kernel
theorem dX5_joined_146 : decode cX5_joined 146 = .ok (.ifCond .gt 12, 3) := by decide +kernel
theorem dX5_joined_149 : decode cX5_joined 149 = .ok (.lload 5, 2) := by decide +kernel
theorem dX5_joined_151 : decode cX5_joined 151 = .ok (.ldc2_w 39, 3) := by decide +kernel
theorem dX5_joined_154 : decode cX5_joined 154 = .ok (.lcmp, 1) := by decide +kernel
theorem dX5_joined_155 : decode cX5_joined 155 = .ok (.ifCond .ge 9, 3) := by decide +kernel
theorem dX5_joined_158 : decode cX5_joined 158 = .ok (.ldc2_w 31, 3) := by decide +kernel
theorem dX5_joined_161 : decode cX5_joined 161 = .ok (.goto 5, 3) := by decide +kernel
theorem dX5_joined_164 : decode cX5_joined 164 = .ok (.lload 5, 2) := by decide +kernel
theorem dX5_joined_166 : decode cX5_joined 166 = .ok (.lreturn, 1) := by decide +kernel
theorem dX6_init_0 : decode cX6_init 0 = .ok (.aload_n 0, 1) := by decide +kernel
theorem dX6_init_1 : decode cX6_init 1 = .ok (.invokespecial 3, 3) := by decide +kernel
theorem dX6_init_4 : decode cX6_init 4 = .ok (.aload_n 0, 1) := by decide +kernel
theorem dX6_init_5 : decode cX6_init 5 = .ok (.sipush 400, 3) := by decide +kernel
theorem dX6_init_8 : decode cX6_init 8 = .ok (.newarray .byte, 2) := by decide +kernel
theorem dX6_init_10 : decode cX6_init 10 = .ok (.putfield 9, 3) := by decide +kernel
theorem dX6_init_13 : decode cX6_init 13 = .ok (.aload_n 0, 1) := by decide +kernel
theorem dX6_init_14 : decode cX6_init 14 = .ok (.iconst 0, 1) := by decide +kernel
theorem dX6_init_15 : decode cX6_init 15 = .ok (.putfield 15, 3) := by decide +kernel
theorem dX6_init_18 : decode cX6_init 18 = .ok (.return_, 1) := by decide +kernel
theorem dX6_hasPlaceFor_0 : decode cX6_hasPlaceFor 0 = .ok (.aload_n 0, 1) := by decide +kernel
theorem dX6_hasPlaceFor_1 : decode cX6_hasPlaceFor 1 = .ok (.getfield 15, 3) := by decide +kernel
theorem dX6_hasPlaceFor_4 : decode cX6_hasPlaceFor 4 = .ok (.iload_n 1, 1) := by decide +kernel
theorem dX6_hasPlaceFor_5 : decode cX6_hasPlaceFor 5 = .ok (.iadd, 1) := by decide +kernel
theorem dX6_hasPlaceFor_6 : decode cX6_hasPlaceFor 6 = .ok (.aload_n 0, 1) := by decide +kernel
theorem dX6_hasPlaceFor_7 : decode cX6_hasPlaceFor 7 = .ok (.getfield 9, 3) := by decide +kernel
theorem dX6_hasPlaceFor_10 : decode cX6_hasPlaceFor 10 = .ok (.arraylength, 1) := by decide +kernel
theorem dX6_hasPlaceFor_11 : decode cX6_hasPlaceFor 11 = .ok (.if_icmp .gt 7, 3) := by decide +kernel
theorem dX6_hasPlaceFor_14 : decode cX6_hasPlaceFor 14 = .ok (.iconst 1, 1) := by decide +kernel
theorem dX6_hasPlaceFor_15 : decode cX6_hasPlaceFor 15 = .ok (.goto 4, 3) := by decide +kernel
theorem dX6_hasPlaceFor_18 : decode cX6_hasPlaceFor 18 = .ok (.iconst 0, 1) := by decide +kernel
theorem dX6_hasPlaceFor_19 : decode cX6_hasPlaceFor 19 = .ok (.ireturn, 1) := by decide +kernel
theorem dX6_addNumber_0 : decode cX6_addNumber 0 = .ok (.aload_n 0, 1) := by decide +kernel
theorem dX6_addNumber_1 : decode cX6_addNumber 1 = .ok (.iconst 4, 1) := by decide +kernel
theorem dX6_addNumber_2 : decode cX6_addNumber 2 = .ok (.invokevirtual 19, 3) := by decide +kernel
theorem dX6_addNumber_5 : decode cX6_addNumber 5 = .ok (.ifCond .ne 4, 3) := by decide +kernel
theorem dX6_addNumber_8 : decode cX6_addNumber 8 = .ok (.return_, 1) := by decide +kernel
theorem dX6_addNumber_9 : decode cX6_addNumber 9 = .ok (.bipush 24, 2) := by decide +kernel
theorem dX6_addNumber_11 : decode cX6_addNumber 11 = .ok (.istore_n 2, 1) := by decide +kernel
theorem dX6_addNumber_12 : decode cX6_addNumber 12 = .ok (.iload_n 2, 1) := by decide +kernel
theorem dX6_addNumber_13 : decode cX6_addNumber 13 = .ok (.ifCond .lt 29, 3) := by decide +kernel
theorem dX6_addNumber_16 : decode cX6_addNumber 16 = .ok (.aload_n 0, 1) := by decide +kernel
theorem dX6_addNumber_17 : decode cX6_addNumber 17 = .ok (.getfield 9, 3) := by decide +kernel
theorem dX6_addNumber_20 : decode cX6_addNumber 20 = .ok (.aload_n 0, 1) := by decide +kernel
theorem dX6_addNumber_21 : decode cX6_addNumber 21 = .ok (.dup, 1) := by decide +kernel
theorem dX6_addNumber_22 : decode cX6_addNumber 22 = .ok (.getfield 15, 3) := by decide +kernel
theorem dX6_addNumber_25 : decode cX6_addNumber 25 = .ok (.dup_x1, 1) := by decide +kernel
theorem dX6_addNumber_26 : decode cX6_addNumber 26 = .ok (.iconst 1, 1) := by decide +kernel
theorem dX6_addNumber_27 : decode cX6_addNumber 27 = .ok (.iadd, 1) := by decide +kernel
theorem dX6_addNumber_28 : decode cX6_addNumber 28 = .ok (.putfield 15, 3) := by decide +kernel
theorem dX6_addNumber_31 : decode cX6_addNumber 31 = .ok (.iload_n 1, 1) := by decide +kernel
theorem dX6_addNumber_32 : decode cX6_addNumber 32 = .ok (.iload_n 2, 1) := by decide +kernel
theorem dX6_addNumber_33 : decode cX6_addNumber 33 = .ok (.ishr, 1) := by decide +kernel
theorem dX6_addNumber_34 : decode cX6_addNumber 34 = .ok (.i2b, 1) := by decide +kernel
theorem dX6_addNumber_35 : decode cX6_addNumber 35 = .ok (.bastore, 1) := by decide +kernel
theorem dX6_addNumber_36 : decode cX6_addNumber 36 = .ok (.iinc 2 (-8), 3) := by decide +kernel
theorem dX6_addNumber_39 : decode cX6_addNumber 39 = .ok (.goto (-27), 3) := by decide +kernel
theorem dX6_addNumber_42 : decode cX6_addNumber 42 = .ok (.return_, 1) := by decide +kernel
theorem dX6_byteAt_0 : decode cX6_byteAt 0 = .ok (.iload_n 1, 1) := by decide +kernel
theorem dX6_byteAt_1 : decode cX6_byteAt 1 = .ok (.ifCond .lt 25, 3) := by decide +kernel
theorem dX6_byteAt_4 : decode cX6_byteAt 4 = .ok (.iload_n 1, 1) := by decide +kernel
theorem dX6_byteAt_5 : decode cX6_byteAt 5 = .ok (.aload_n 0, 1) := by decide +kernel
theorem dX6_byteAt_6 : decode cX6_byteAt 6 = .ok (.getfield 9, 3) := by decide +kernel
theorem dX6_byteAt_9 : decode cX6_byteAt 9 = .ok (.arraylength, 1) := by decide +kernel
theorem dX6_byteAt_10 : decode cX6_byteAt 10 = .ok (.if_icmp .ge 16, 3) := by decide +kernel
theorem dX6_byteAt_13 : decode cX6_byteAt 13 = .ok (.aload_n 0, 1) := by decide +kernel
theorem dX6_byteAt_14 : decode cX6_byteAt 14 = .ok (.getfield 9, 3) := by decide +kernel
theorem dX6_byteAt_17 : decode cX6_byteAt 17 = .ok (.iload_n 1, 1) := by decide +kernel
theorem dX6_byteAt_18 : decode cX6_byteAt 18 = .ok (.baload, 1) := by decide +kernel
theorem dX6_byteAt_19 : decode cX6_byteAt 19 = .ok (.sipush 255, 3) := by decide +kernel
theorem dX6_byteAt_22 : decode cX6_byteAt 22 = .ok (.iand, 1) := by decide +kernel
theorem dX6_byteAt_23 : decode cX6_byteAt 23 = .ok (.goto 4, 3) := by decide +kernel
theorem dX6_byteAt_26 : decode cX6_byteAt 26 = .ok (.iconst 0, 1) := by decide +kernel
theorem dX6_byteAt_27 : decode cX6_byteAt 27 = .ok (.ireturn, 1) := by decide +kernel
theorem dX7_init_0 : decode cX7_init 0 = .ok (.aload_n 0, 1) := by decide +kernel
theorem dX7_init_1 : decode cX7_init 1 = .ok (.invokespecial 3, 3) := by decide +kernel
theorem dX7_init_4 : decode cX7_init 4 = .ok (.aload_n 0, 1) := by decide +kernel
theorem dX7_init_5 : decode cX7_init 5 = .ok (.aload_n 1, 1) := by decide +kernel
theorem dX7_init_6 : decode cX7_init 6 = .ok (.putfield 9, 3) := by decide +kernel
theorem dX7_init_9 : decode cX7_init 9 = .ok (.aload_n 0, 1) := by decide +kernel
theorem dX7_init_10 : decode cX7_init 10 = .ok (.aload_n 2, 1) := by decide +kernel
theorem dX7_init_11 : decode cX7_init 11 = .ok (.putfield 15, 3) := by decide +kernel
theorem dX7_init_14 : decode cX7_init 14 = .ok (.aload_n 0, 1) := by decide +kernel
theorem dX7_init_15 : decode cX7_init 15 = .ok (.iload_n 3, 1) := by decide +kernel
theorem dX7_init_16 : decode cX7_init 16 = .ok (.putfield 18, 3) := by decide +kernel
theorem dX7_init_19 : decode cX7_init 19 = .ok (.return_, 1) := by decide +kernel
theorem dX7_field_0 : decode cX7_field 0 = .ok (.iload_n 1, 1) := by decide +kernel
theorem dX7_field_1 : decode cX7_field 1 = .ok (.bipush 6, 2) := by decide +kernel
theorem dX7_field_3 : decode cX7_field 3 = .ok (.imul, 1) := by decide +kernel
theorem dX7_field_4 : decode cX7_field 4 = .ok (.iload_n 2, 1) := by decide +kernel
theorem dX7_field_5 : decode cX7_field 5 = .ok (.iadd, 1) := by decide +kernel
theorem dX7_field_6 : decode cX7_field 6 = .ok (.istore_n 3, 1) := by decide +kernel
theorem dX7_field_7 : decode cX7_field 7 = .ok (.iload_n 3, 1) := by decide +kernel
theorem dX7_field_8 : decode cX7_field 8 = .ok (.ifCond .lt 21, 3) := by decide +kernel
theorem dX7_field_11 : decode cX7_field 11 = .ok (.iload_n 3, 1) := by decide +kernel
theorem dX7_field_12 : decode cX7_field 12 = .ok (.aload_n 0, 1) := by decide +kernel
theorem dX7_field_13 : decode cX7_field 13 = .ok (.getfield 15, 3) := by decide +kernel
theorem dX7_field_16 : decode cX7_field 16 = .ok (.arraylength, 1) := by decide +kernel
theorem dX7_field_17 : decode cX7_field 17 = .ok (.if_icmp .ge 12, 3) := by decide +kernel
theorem dX7_field_20 : decode cX7_field 20 = .ok (.aload_n 0, 1) := by decide +kernel
theorem dX7_field_21 : decode cX7_field 21 = .ok (.getfield 15, 3) := by decide +kernel
theorem dX7_field_24 : decode cX7_field 24 = .ok (.iload_n 3, 1) := by decide +kernel
theorem dX7_field_25 : decode cX7_field 25 = .ok (.iaload, 1) := by decide +kernel
theorem dX7_field_26 : decode cX7_field 26 = .ok (.goto 4, 3) := by decide +kernel
theorem dX7_field_29 : decode cX7_field 29 = .ok (.iconst 0, 1) := by decide +kernel
theorem dX7_field_30 : decode cX7_field 30 = .ok (.ireturn, 1) := by decide +kernel
theorem dX7_told_0 : decode cX7_told 0 = .ok (.aload_n 0, 1) := by decide +kernel
theorem dX7_told_1 : decode cX7_told 1 = .ok (.getfield 18, 3) := by decide +kernel
theorem dX7_told_4 : decode cX7_told 4 = .ok (.iconst 1, 1) := by decide +kernel
theorem dX7_told_5 : decode cX7_told 5 = .ok (.isub, 1) := by decide +kernel
theorem dX7_told_6 : decode cX7_told 6 = .ok (.istore_n 3, 1) := by decide +kernel
theorem dX7_told_7 : decode cX7_told 7 = .ok (.iload_n 3, 1) := by decide +kernel
theorem dX7_told_8 : decode cX7_told 8 = .ok (.ifCond .lt 106, 3) := by decide +kernel
theorem dX7_told_11 : decode cX7_told 11 = .ok (.aload_n 0, 1) := by decide +kernel
theorem dX7_told_12 : decode cX7_told 12 = .ok (.iload_n 3, 1) := by decide +kernel
theorem dX7_told_13 : decode cX7_told 13 = .ok (.iconst 0, 1) := by decide +kernel
theorem dX7_told_14 : decode cX7_told 14 = .ok (.invokevirtual 22, 3) := by decide +kernel
theorem dX7_told_17 : decode cX7_told 17 = .ok (.iload_n 1, 1) := by decide +kernel
theorem dX7_told_18 : decode cX7_told 18 = .ok (.if_icmp .eq 6, 3) := by decide +kernel
theorem dX7_told_21 : decode cX7_told 21 = .ok (.goto 87, 3) := by decide +kernel
theorem dX7_told_24 : decode cX7_told 24 = .ok (.aload_n 0, 1) := by decide +kernel
theorem dX7_told_25 : decode cX7_told 25 = .ok (.iload_n 3, 1) := by decide +kernel
theorem dX7_told_26 : decode cX7_told 26 = .ok (.iconst 3, 1) := by decide +kernel
theorem dX7_told_27 : decode cX7_told 27 = .ok (.invokevirtual 22, 3) := by decide +kernel
theorem dX7_told_30 : decode cX7_told 30 = .ok (.istore 4, 2) := by decide +kernel
theorem dX7_told_32 : decode cX7_told 32 = .ok (.aload_n 0, 1) := by decide +kernel
theorem dX7_told_33 : decode cX7_told 33 = .ok (.iload_n 3, 1) := by decide +kernel
theorem dX7_told_34 : decode cX7_told 34 = .ok (.iconst 4, 1) := by decide +kernel
theorem dX7_told_35 : decode cX7_told 35 = .ok (.invokevirtual 22, 3) := by decide +kernel
theorem dX7_told_38 : decode cX7_told 38 = .ok (.istore 5, 2) := by decide +kernel
theorem dX7_told_40 : decode cX7_told 40 = .ok (.iload 4, 2) := by decide +kernel
theorem dX7_told_42 : decode cX7_told 42 = .ok (.iload 5, 2) := by decide +kernel
theorem dX7_told_44 : decode cX7_told 44 = .ok (.if_icmp .ge 23, 3) := by decide +kernel
theorem dX7_told_47 : decode cX7_told 47 = .ok (.aload_n 2, 1) := by decide +kernel
theorem dX7_told_48 : decode cX7_told 48 = .ok (.aload_n 0, 1) := by decide +kernel
theorem dX7_told_49 : decode cX7_told 49 = .ok (.getfield 9, 3) := by decide +kernel
theorem dX7_told_52 : decode cX7_told 52 = .ok (.iload 4, 2) := by decide +kernel
theorem dX7_told_54 : decode cX7_told 54 = .ok (.iload 5, 2) := by decide +kernel
theorem dX7_told_56 : decode cX7_told 56 = .ok (.invokevirtual 26, 3) := by decide +kernel
theorem dX7_told_59 : decode cX7_told 59 = .ok (.lconst 1, 1) := by decide +kernel
theorem dX7_told_60 : decode cX7_told 60 = .ok (.lcmp, 1) := by decide +kernel
theorem dX7_told_61 : decode cX7_told 61 = .ok (.ifCond .eq 6, 3) := by decide +kernel
theorem dX7_told_64 : decode cX7_told 64 = .ok (.goto 44, 3) := by decide +kernel
theorem dX7_told_67 : decode cX7_told 67 = .ok (.iload_n 1, 1) := by decide +kernel
theorem dX7_told_68 : decode cX7_told 68 = .ok (.sipush 302, 3) := by decide +kernel
theorem dX7_told_71 : decode cX7_told 71 = .ok (.if_icmp .ne 7, 3) := by decide +kernel
theorem dX7_told_74 : decode cX7_told 74 = .ok (.lconst 1, 1) := by decide +kernel
theorem dX7_told_75 : decode cX7_told 75 = .ok (.goto 19, 3) := by decide +kernel
theorem dX7_told_78 : decode cX7_told 78 = .ok (.aload_n 2, 1) := by decide +kernel
theorem dX7_told_79 : decode cX7_told 79 = .ok (.aload_n 0, 1) := by decide +kernel
theorem dX7_told_80 : decode cX7_told 80 = .ok (.getfield 9, 3) := by decide +kernel
theorem dX7_told_83 : decode cX7_told 83 = .ok (.aload_n 0, 1) := by decide +kernel
theorem dX7_told_84 : decode cX7_told 84 = .ok (.iload_n 3, 1) := by decide +kernel
theorem dX7_told_85 : decode cX7_told 85 = .ok (.iconst 1, 1) := by decide +kernel
theorem dX7_told_86 : decode cX7_told 86 = .ok (.invokevirtual 22, 3) := by decide +kernel
theorem dX7_told_89 : decode cX7_told 89 = .ok (.iload 4, 2) := by decide +kernel
theorem dX7_told_91 : decode cX7_told 91 = .ok (.invokevirtual 26, 3) := by decide +kernel
theorem dX7_told_94 : decode cX7_told 94 = .ok (.lstore 6, 2) := by decide +kernel
theorem dX7_told_96 : decode cX7_told 96 = .ok (.lload 6, 2) := by decide +kernel
theorem dX7_told_98 : decode cX7_told 98 = .ok (.ldc2_w 32, 3) := by decide +kernel
theorem dX7_told_101 : decode cX7_told 101 = .ok (.lcmp, 1) := by decide +kernel
theorem dX7_told_102 : decode cX7_told 102 = .ok (.ifCond .eq 6, 3) := by decide +kernel
theorem dX7_told_105 : decode cX7_told 105 = .ok (.lload 6, 2) := by decide +kernel
theorem dX7_told_107 : decode cX7_told 107 = .ok (.lreturn, 1) := by decide +kernel
theorem dX7_told_108 : decode cX7_told 108 = .ok (.iinc 3 (-1), 3) := by decide +kernel
theorem dX7_told_111 : decode cX7_told 111 = .ok (.goto (-104), 3) := by decide +kernel
theorem dX7_told_114 : decode cX7_told 114 = .ok (.ldc2_w 32, 3) := by decide +kernel
theorem dX7_told_117 : decode cX7_told 117 = .ok (.lreturn, 1) := by decide +kernel
