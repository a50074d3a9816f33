theorem dX0_init_0 : decode cX0_init 0 = .ok (.aload_n 0, 1) := by decide +kernel
theorem dX0_init_1 : decode cX0_init 1 = .ok (.invokespecial 3, 3) := by decide +kernel
theorem dX0_init_4 : decode cX0_init 4 = .ok (.aload_n 0, 1) := by decide +kernel
theorem dX0_init_5 : decode cX0_init 5 = .ok (.new 9, 3) := by decide +kernel
theorem dX0_init_8 : decode cX0_init 8 = .ok (.dup, 1) := by decide +kernel
theorem dX0_init_9 : decode cX0_init 9 = .ok (.invokespecial 11, 3) := by decide +kernel
theorem dX0_init_12 : decode cX0_init 12 = .ok (.putfield 12, 3) := by decide +kernel
theorem dX0_init_15 : decode cX0_init 15 = .ok (.aload_n 0, 1) := by decide +kernel
theorem dX0_init_16 : decode cX0_init 16 = .ok (.new 9, 3) := by decide +kernel
theorem dX0_init_19 : decode cX0_init 19 = .ok (.dup, 1) := by decide +kernel
theorem dX0_init_20 : decode cX0_init 20 = .ok (.invokespecial 11, 3) := by decide +kernel
theorem dX0_init_23 : decode cX0_init 23 = .ok (.putfield 18, 3) := by decide +kernel
theorem dX0_init_26 : decode cX0_init 26 = .ok (.aload_n 0, 1) := by decide +kernel
theorem dX0_init_27 : decode cX0_init 27 = .ok (.iconst 0, 1) := by decide +kernel
theorem dX0_init_28 : decode cX0_init 28 = .ok (.putfield 21, 3) := by decide +kernel
theorem dX0_init_31 : decode cX0_init 31 = .ok (.aload_n 0, 1) := by decide +kernel
theorem dX0_init_32 : decode cX0_init 32 = .ok (.iconst 0, 1) := by decide +kernel
theorem dX0_init_33 : decode cX0_init 33 = .ok (.putfield 25, 3) := by decide +kernel
theorem dX0_init_36 : decode cX0_init 36 = .ok (.aload_n 0, 1) := by decide +kernel
theorem dX0_init_37 : decode cX0_init 37 = .ok (.iconst 1, 1) := by decide +kernel
theorem dX0_init_38 : decode cX0_init 38 = .ok (.putfield 28, 3) := by decide +kernel
theorem dX0_init_41 : decode cX0_init 41 = .ok (.aload_n 0, 1) := by decide +kernel
theorem dX0_init_42 : decode cX0_init 42 = .ok (.aload_n 1, 1) := by decide +kernel
theorem dX0_init_43 : decode cX0_init 43 = .ok (.putfield 31, 3) := by decide +kernel
theorem dX0_init_46 : decode cX0_init 46 = .ok (.aload_n 0, 1) := by decide +kernel
theorem dX0_init_47 : decode cX0_init 47 = .ok (.aload_n 2, 1) := by decide +kernel
theorem dX0_init_48 : decode cX0_init 48 = .ok (.putfield 35, 3) := by decide +kernel
theorem dX0_init_51 : decode cX0_init 51 = .ok (.return_, 1) := by decide +kernel
theorem dX0_weigh_0 : decode cX0_weigh 0 = .ok (.aload_n 0, 1) := by decide +kernel
theorem dX0_weigh_1 : decode cX0_weigh 1 = .ok (.getfield 31, 3) := by decide +kernel
theorem dX0_weigh_4 : decode cX0_weigh 4 = .ok (.getfield 39, 3) := by decide +kernel
theorem dX0_weigh_7 : decode cX0_weigh 7 = .ok (.iload_n 1, 1) := by decide +kernel
theorem dX0_weigh_8 : decode cX0_weigh 8 = .ok (.iaload, 1) := by decide +kernel
theorem dX0_weigh_9 : decode cX0_weigh 9 = .ok (.istore 5, 2) := by decide +kernel
theorem dX0_weigh_11 : decode cX0_weigh 11 = .ok (.aload_n 0, 1) := by decide +kernel
theorem dX0_weigh_12 : decode cX0_weigh 12 = .ok (.getfield 35, 3) := by decide +kernel
theorem dX0_weigh_15 : decode cX0_weigh 15 = .ok (.getfield 45, 3) := by decide +kernel
theorem dX0_weigh_18 : decode cX0_weigh 18 = .ok (.iconst 0, 1) := by decide +kernel
theorem dX0_weigh_19 : decode cX0_weigh 19 = .ok (.iload_n 1, 1) := by decide +kernel
theorem dX0_weigh_20 : decode cX0_weigh 20 = .ok (.iastore, 1) := by decide +kernel
theorem dX0_weigh_21 : decode cX0_weigh 21 = .ok (.aload_n 0, 1) := by decide +kernel
theorem dX0_weigh_22 : decode cX0_weigh 22 = .ok (.getfield 35, 3) := by decide +kernel
theorem dX0_weigh_25 : decode cX0_weigh 25 = .ok (.getfield 45, 3) := by decide +kernel
theorem dX0_weigh_28 : decode cX0_weigh 28 = .ok (.iconst 1, 1) := by decide +kernel
theorem dX0_weigh_29 : decode cX0_weigh 29 = .ok (.iload_n 2, 1) := by decide +kernel
theorem dX0_weigh_30 : decode cX0_weigh 30 = .ok (.iastore, 1) := by decide +kernel
theorem dX0_weigh_31 : decode cX0_weigh 31 = .ok (.aload_n 0, 1) := by decide +kernel
theorem dX0_weigh_32 : decode cX0_weigh 32 = .ok (.getfield 35, 3) := by decide +kernel
theorem dX0_weigh_35 : decode cX0_weigh 35 = .ok (.getfield 45, 3) := by decide +kernel
theorem dX0_weigh_38 : decode cX0_weigh 38 = .ok (.iconst 2, 1) := by decide +kernel
theorem dX0_weigh_39 : decode cX0_weigh 39 = .ok (.iload_n 3, 1) := by decide +kernel
theorem dX0_weigh_40 : decode cX0_weigh 40 = .ok (.iastore, 1) := by decide +kernel
theorem dX0_weigh_41 : decode cX0_weigh 41 = .ok (.aload_n 0, 1) := by decide +kernel
theorem dX0_weigh_42 : decode cX0_weigh 42 = .ok (.getfield 35, 3) := by decide +kernel
theorem dX0_weigh_45 : decode cX0_weigh 45 = .ok (.getfield 45, 3) := by decide +kernel
theorem dX0_weigh_48 : decode cX0_weigh 48 = .ok (.iconst 3, 1) := by decide +kernel
theorem dX0_weigh_49 : decode cX0_weigh 49 = .ok (.iload 5, 2) := by decide +kernel
theorem dX0_weigh_51 : decode cX0_weigh 51 = .ok (.iastore, 1) := by decide +kernel
theorem dX0_weigh_52 : decode cX0_weigh 52 = .ok (.aload_n 0, 1) := by decide +kernel
theorem dX0_weigh_53 : decode cX0_weigh 53 = .ok (.getfield 35, 3) := by decide +kernel
theorem dX0_weigh_56 : decode cX0_weigh 56 = .ok (.getfield 45, 3) := by decide +kernel
theorem dX0_weigh_59 : decode cX0_weigh 59 = .ok (.iconst 4, 1) := by decide +kernel
theorem dX0_weigh_60 : decode cX0_weigh 60 = .ok (.aload_n 0, 1) := by decide +kernel
theorem dX0_weigh_61 : decode cX0_weigh 61 = .ok (.getfield 31, 3) := by decide +kernel
theorem dX0_weigh_64 : decode cX0_weigh 64 = .ok (.getfield 50, 3) := by decide +kernel
theorem dX0_weigh_67 : decode cX0_weigh 67 = .ok (.iastore, 1) := by decide +kernel
theorem dX0_weigh_68 : decode cX0_weigh 68 = .ok (.aload_n 0, 1) := by decide +kernel
theorem dX0_weigh_69 : decode cX0_weigh 69 = .ok (.getfield 35, 3) := by decide +kernel
theorem dX0_weigh_72 : decode cX0_weigh 72 = .ok (.getfield 45, 3) := by decide +kernel
theorem dX0_weigh_75 : decode cX0_weigh 75 = .ok (.iconst 5, 1) := by decide +kernel
theorem dX0_weigh_76 : decode cX0_weigh 76 = .ok (.iload 4, 2) := by decide +kernel
theorem dX0_weigh_78 : decode cX0_weigh 78 = .ok (.iastore, 1) := by decide +kernel
theorem dX0_weigh_79 : decode cX0_weigh 79 = .ok (.aload_n 0, 1) := by decide +kernel
theorem dX0_weigh_80 : decode cX0_weigh 80 = .ok (.getfield 35, 3) := by decide +kernel
theorem dX0_weigh_83 : decode cX0_weigh 83 = .ok (.getfield 45, 3) := by decide +kernel
theorem dX0_weigh_86 : decode cX0_weigh 86 = .ok (.bipush 6, 2) := by decide +kernel
theorem dX0_weigh_88 : decode cX0_weigh 88 = .ok (.iload_n 2, 1) := by decide +kernel
theorem dX0_weigh_89 : decode cX0_weigh 89 = .ok (.aload_n 0, 1) := by decide +kernel
theorem dX0_weigh_90 : decode cX0_weigh 90 = .ok (.getfield 31, 3) := by decide +kernel
theorem dX0_weigh_93 : decode cX0_weigh 93 = .ok (.getfield 53, 3) := by decide +kernel
theorem dX0_weigh_96 : decode cX0_weigh 96 = .ok (.iconst 2, 1) := by decide +kernel
theorem dX0_weigh_97 : decode cX0_weigh 97 = .ok (.idiv, 1) := by decide +kernel
theorem dX0_weigh_98 : decode cX0_weigh 98 = .ok (.if_icmp .le 7, 3) := by decide +kernel
theorem dX0_weigh_101 : decode cX0_weigh 101 = .ok (.iconst 1, 1) := by decide +kernel
theorem dX0_weigh_102 : decode cX0_weigh 102 = .ok (.goto 4, 3) := by decide +kernel
theorem dX0_weigh_105 : decode cX0_weigh 105 = .ok (.iconst 0, 1) := by decide +kernel
theorem dX0_weigh_106 : decode cX0_weigh 106 = .ok (.iastore, 1) := by decide +kernel
theorem dX0_weigh_107 : decode cX0_weigh 107 = .ok (.aload_n 0, 1) := by decide +kernel
theorem dX0_weigh_108 : decode cX0_weigh 108 = .ok (.getfield 35, 3) := by decide +kernel
theorem dX0_weigh_111 : decode cX0_weigh 111 = .ok (.getfield 45, 3) := by decide +kernel
theorem dX0_weigh_114 : decode cX0_weigh 114 = .ok (.bipush 7, 2) := by decide +kernel
theorem dX0_weigh_116 : decode cX0_weigh 116 = .ok (.aload_n 0, 1) := by decide +kernel
theorem dX0_weigh_117 : decode cX0_weigh 117 = .ok (.getfield 31, 3) := by decide +kernel
theorem dX0_weigh_120 : decode cX0_weigh 120 = .ok (.iload_n 3, 1) := by decide +kernel
theorem dX0_weigh_121 : decode cX0_weigh 121 = .ok (.invokevirtual 56, 3) := by decide +kernel
theorem dX0_weigh_124 : decode cX0_weigh 124 = .ok (.ifCond .eq 7, 3) := by decide +kernel
theorem dX0_weigh_127 : decode cX0_weigh 127 = .ok (.iconst 1, 1) := by decide +kernel
theorem dX0_weigh_128 : decode cX0_weigh 128 = .ok (.goto 4, 3) := by decide +kernel
theorem dX0_weigh_131 : decode cX0_weigh 131 = .ok (.iconst 0, 1) := by decide +kernel
theorem dX0_weigh_132 : decode cX0_weigh 132 = .ok (.iastore, 1) := by decide +kernel
theorem dX0_weigh_133 : decode cX0_weigh 133 = .ok (.aload_n 0, 1) := by decide +kernel
theorem dX0_weigh_134 : decode cX0_weigh 134 = .ok (.getfield 35, 3) := by decide +kernel
theorem dX0_weigh_137 : decode cX0_weigh 137 = .ok (.invokevirtual 60, 3) := by decide +kernel
theorem dX0_weigh_140 : decode cX0_weigh 140 = .ok (.aload_n 0, 1) := by decide +kernel
theorem dX0_weigh_141 : decode cX0_weigh 141 = .ok (.iconst 0, 1) := by decide +kernel
theorem dX0_weigh_142 : decode cX0_weigh 142 = .ok (.bipush 12, 2) := by decide +kernel
theorem dX0_weigh_144 : decode cX0_weigh 144 = .ok (.aload_n 0, 1) := by decide +kernel
theorem dX0_weigh_145 : decode cX0_weigh 145 = .ok (.getfield 31, 3) := by decide +kernel
theorem dX0_weigh_148 : decode cX0_weigh 148 = .ok (.getfield 63, 3) := by decide +kernel
theorem dX0_weigh_151 : decode cX0_weigh 151 = .ok (.iload_n 1, 1) := by decide +kernel
theorem dX0_weigh_152 : decode cX0_weigh 152 = .ok (.iaload, 1) := by decide +kernel
theorem dX0_weigh_153 : decode cX0_weigh 153 = .ok (.aload_n 0, 1) := by decide +kernel
theorem dX0_weigh_154 : decode cX0_weigh 154 = .ok (.getfield 35, 3) := by decide +kernel
theorem dX0_weigh_157 : decode cX0_weigh 157 = .ok (.getfield 66, 3) := by decide +kernel
theorem dX0_weigh_160 : decode cX0_weigh 160 = .ok (.iadd, 1) := by decide +kernel
theorem dX0_weigh_161 : decode cX0_weigh 161 = .ok (.invokestatic 69, 3) := by decide +kernel
theorem dX0_weigh_164 : decode cX0_weigh 164 = .ok (.invokestatic 75, 3) := by decide +kernel
theorem dX0_weigh_167 : decode cX0_weigh 167 = .ok (.putfield 21, 3) := by decide +kernel
theorem dX0_weigh_170 : decode cX0_weigh 170 = .ok (.aload_n 0, 1) := by decide +kernel
theorem dX0_weigh_171 : decode cX0_weigh 171 = .ok (.aload_n 0, 1) := by decide +kernel
theorem dX0_weigh_172 : decode cX0_weigh 172 = .ok (.getfield 31, 3) := by decide +kernel
theorem dX0_weigh_175 : decode cX0_weigh 175 = .ok (.getfield 78, 3) := by decide +kernel
theorem dX0_weigh_178 : decode cX0_weigh 178 = .ok (.iload_n 2, 1) := by decide +kernel
theorem dX0_weigh_179 : decode cX0_weigh 179 = .ok (.iaload, 1) := by decide +kernel
theorem dX0_weigh_180 : decode cX0_weigh 180 = .ok (.iload 5, 2) := by decide +kernel
theorem dX0_weigh_182 : decode cX0_weigh 182 = .ok (.imul, 1) := by decide +kernel
theorem dX0_weigh_183 : decode cX0_weigh 183 = .ok (.aload_n 0, 1) := by decide +kernel
theorem dX0_weigh_184 : decode cX0_weigh 184 = .ok (.getfield 35, 3) := by decide +kernel
theorem dX0_weigh_187 : decode cX0_weigh 187 = .ok (.getfield 81, 3) := by decide +kernel
theorem dX0_weigh_190 : decode cX0_weigh 190 = .ok (.iadd, 1) := by decide +kernel
theorem dX0_weigh_191 : decode cX0_weigh 191 = .ok (.putfield 25, 3) := by decide +kernel
theorem dX0_weigh_194 : decode cX0_weigh 194 = .ok (.return_, 1) := by decide +kernel
theorem dX0_release_0 : decode cX0_release 0 = .ok (.aload_n 1, 1) := by decide +kernel
theorem dX0_release_1 : decode cX0_release 1 = .ok (.iload_n 2, 1) := by decide +kernel
theorem dX0_release_2 : decode cX0_release 2 = .ok (.putfield 84, 3) := by decide +kernel
theorem dX0_release_5 : decode cX0_release 5 = .ok (.aload_n 1, 1) := by decide +kernel
theorem dX0_release_6 : decode cX0_release 6 = .ok (.aload_n 0, 1) := by decide +kernel
theorem dX0_release_7 : decode cX0_release 7 = .ok (.getfield 31, 3) := by decide +kernel
theorem dX0_release_10 : decode cX0_release 10 = .ok (.getfield 53, 3) := by decide +kernel
theorem dX0_release_13 : decode cX0_release 13 = .ok (.putfield 87, 3) := by decide +kernel
theorem dX0_release_16 : decode cX0_release 16 = .ok (.aload_n 1, 1) := by decide +kernel
theorem dX0_release_17 : decode cX0_release 17 = .ok (.aload_n 0, 1) := by decide +kernel
theorem dX0_release_18 : decode cX0_release 18 = .ok (.getfield 31, 3) := by decide +kernel
theorem dX0_release_21 : decode cX0_release 21 = .ok (.getfield 90, 3) := by decide +kernel
theorem dX0_release_24 : decode cX0_release 24 = .ok (.putfield 93, 3) := by decide +kernel
theorem dX0_release_27 : decode cX0_release 27 = .ok (.aload_n 1, 1) := by decide +kernel
theorem dX0_release_28 : decode cX0_release 28 = .ok (.iconst 1, 1) := by decide +kernel
theorem dX0_release_29 : decode cX0_release 29 = .ok (.putfield 96, 3) := by decide +kernel
theorem dX0_release_32 : decode cX0_release 32 = .ok (.aload_n 1, 1) := by decide +kernel
theorem dX0_release_33 : decode cX0_release 33 = .ok (.iconst 0, 1) := by decide +kernel
theorem dX0_release_34 : decode cX0_release 34 = .ok (.putfield 100, 3) := by decide +kernel
theorem dX0_release_37 : decode cX0_release 37 = .ok (.aload_n 1, 1) := by decide +kernel
theorem dX0_release_38 : decode cX0_release 38 = .ok (.iconst 0, 1) := by decide +kernel
theorem dX0_release_39 : decode cX0_release 39 = .ok (.putfield 103, 3) := by decide +kernel
theorem dX0_release_42 : decode cX0_release 42 = .ok (.return_, 1) := by decide +kernel
theorem dX0_drift_0 : decode cX0_drift 0 = .ok (.aload_n 0, 1) := by decide +kernel
theorem dX0_drift_1 : decode cX0_drift 1 = .ok (.aload_n 1, 1) := by decide +kernel
theorem dX0_drift_2 : decode cX0_drift 2 = .ok (.getfield 84, 3) := by decide +kernel
theorem dX0_drift_5 : decode cX0_drift 5 = .ok (.aload_n 1, 1) := by decide +kernel
theorem dX0_drift_6 : decode cX0_drift 6 = .ok (.getfield 87, 3) := by decide +kernel
theorem dX0_drift_9 : decode cX0_drift 9 = .ok (.aload_n 1, 1) := by decide +kernel
theorem dX0_drift_10 : decode cX0_drift 10 = .ok (.getfield 93, 3) := by decide +kernel
theorem dX0_drift_13 : decode cX0_drift 13 = .ok (.iload_n 2, 1) := by decide +kernel
theorem dX0_drift_14 : decode cX0_drift 14 = .ok (.invokevirtual 106, 3) := by decide +kernel
theorem dX0_drift_17 : decode cX0_drift 17 = .ok (.aload_n 1, 1) := by decide +kernel
theorem dX0_drift_18 : decode cX0_drift 18 = .ok (.dup, 1) := by decide +kernel
theorem dX0_drift_19 : decode cX0_drift 19 = .ok (.getfield 87, 3) := by decide +kernel
theorem dX0_drift_22 : decode cX0_drift 22 = .ok (.aload_n 0, 1) := by decide +kernel
theorem dX0_drift_23 : decode cX0_drift 23 = .ok (.getfield 21, 3) := by decide +kernel
theorem dX0_drift_26 : decode cX0_drift 26 = .ok (.isub, 1) := by decide +kernel
theorem dX0_drift_27 : decode cX0_drift 27 = .ok (.putfield 87, 3) := by decide +kernel
theorem dX0_drift_30 : decode cX0_drift 30 = .ok (.aload_n 1, 1) := by decide +kernel
theorem dX0_drift_31 : decode cX0_drift 31 = .ok (.dup, 1) := by decide +kernel
theorem dX0_drift_32 : decode cX0_drift 32 = .ok (.getfield 93, 3) := by decide +kernel
theorem dX0_drift_35 : decode cX0_drift 35 = .ok (.aload_n 0, 1) := by decide +kernel
theorem dX0_drift_36 : decode cX0_drift 36 = .ok (.getfield 25, 3) := by decide +kernel
theorem dX0_drift_39 : decode cX0_drift 39 = .ok (.aload_n 0, 1) := by decide +kernel
theorem dX0_drift_40 : decode cX0_drift 40 = .ok (.getfield 31, 3) := by decide +kernel
theorem dX0_drift_43 : decode cX0_drift 43 = .ok (.getfield 39, 3) := by decide +kernel
theorem dX0_drift_46 : decode cX0_drift 46 = .ok (.aload_n 1, 1) := by decide +kernel
theorem dX0_drift_47 : decode cX0_drift 47 = .ok (.getfield 84, 3) := by decide +kernel
theorem dX0_drift_50 : decode cX0_drift 50 = .ok (.iaload, 1) := by decide +kernel
theorem dX0_drift_51 : decode cX0_drift 51 = .ok (.ifCond .le 7, 3) := by decide +kernel
theorem dX0_drift_54 : decode cX0_drift 54 = .ok (.iload_n 3, 1) := by decide +kernel
theorem dX0_drift_55 : decode cX0_drift 55 = .ok (.goto 4, 3) := by decide +kernel
theorem dX0_drift_58 : decode cX0_drift 58 = .ok (.iconst 0, 1) := by decide +kernel
theorem dX0_drift_59 : decode cX0_drift 59 = .ok (.iadd, 1) := by decide +kernel
theorem dX0_drift_60 : decode cX0_drift 60 = .ok (.iadd, 1) := by decide +kernel
theorem dX0_drift_61 : decode cX0_drift 61 = .ok (.putfield 93, 3) := by decide +kernel
theorem dX0_drift_64 : decode cX0_drift 64 = .ok (.aload_n 1, 1) := by decide +kernel
theorem dX0_drift_65 : decode cX0_drift 65 = .ok (.getfield 93, 3) := by decide +kernel
theorem dX0_drift_68 : decode cX0_drift 68 = .ok (.ifCond .lt 12, 3) := by decide +kernel
theorem dX0_drift_71 : decode cX0_drift 71 = .ok (.aload_n 1, 1) := by decide +kernel
theorem dX0_drift_72 : decode cX0_drift 72 = .ok (.getfield 93, 3) := by decide +kernel
theorem dX0_drift_75 : decode cX0_drift 75 = .ok (.bipush 16, 2) := by decide +kernel
theorem dX0_drift_77 : decode cX0_drift 77 = .ok (.if_icmp .lt 11, 3) := by decide +kernel
theorem dX0_drift_80 : decode cX0_drift 80 = .ok (.aload_n 1, 1) := by decide +kernel
theorem dX0_drift_81 : decode cX0_drift 81 = .ok (.iconst 0, 1) := by decide +kernel
theorem dX0_drift_82 : decode cX0_drift 82 = .ok (.putfield 96, 3) := by decide +kernel
theorem dX0_drift_85 : decode cX0_drift 85 = .ok (.goto 47, 3) := by decide +kernel
theorem dX0_drift_88 : decode cX0_drift 88 = .ok (.aload_n 1, 1) := by decide +kernel
theorem dX0_drift_89 : decode cX0_drift 89 = .ok (.getfield 87, 3) := by decide +kernel
theorem dX0_drift_92 : decode cX0_drift 92 = .ok (.ifCond .gt 40, 3) := by decide +kernel
theorem dX0_drift_95 : decode cX0_drift 95 = .ok (.aload_n 1, 1) := by decide +kernel
theorem dX0_drift_96 : decode cX0_drift 96 = .ok (.iconst 0, 1) := by decide +kernel
theorem dX0_drift_97 : decode cX0_drift 97 = .ok (.putfield 96, 3) := by decide +kernel
theorem dX0_drift_100 : decode cX0_drift 100 = .ok (.aload_n 1, 1) := by decide +kernel
theorem dX0_drift_101 : decode cX0_drift 101 = .ok (.iload_n 2, 1) := by decide +kernel
theorem dX0_drift_102 : decode cX0_drift 102 = .ok (.iconst 1, 1) := by decide +kernel
theorem dX0_drift_103 : decode cX0_drift 103 = .ok (.iadd, 1) := by decide +kernel
theorem dX0_drift_104 : decode cX0_drift 104 = .ok (.putfield 100, 3) := by decide +kernel
theorem dX0_drift_107 : decode cX0_drift 107 = .ok (.aload_n 1, 1) := by decide +kernel
theorem dX0_drift_108 : decode cX0_drift 108 = .ok (.aload_n 0, 1) := by decide +kernel
theorem dX0_drift_109 : decode cX0_drift 109 = .ok (.getfield 31, 3) := by decide +kernel
theorem dX0_drift_112 : decode cX0_drift 112 = .ok (.aload_n 1, 1) := by decide +kernel
theorem dX0_drift_113 : decode cX0_drift 113 = .ok (.getfield 93, 3) := by decide +kernel
theorem dX0_drift_116 : decode cX0_drift 116 = .ok (.invokevirtual 56, 3) := by decide +kernel
theorem dX0_drift_119 : decode cX0_drift 119 = .ok (.ifCond .eq 9, 3) := by decide +kernel
theorem dX0_drift_122 : decode cX0_drift 122 = .ok (.iload_n 2, 1) := by decide +kernel
theorem dX0_drift_123 : decode cX0_drift 123 = .ok (.iconst 1, 1) := by decide +kernel
theorem dX0_drift_124 : decode cX0_drift 124 = .ok (.iadd, 1) := by decide +kernel
theorem dX0_drift_125 : decode cX0_drift 125 = .ok (.goto 4, 3) := by decide +kernel
theorem dX0_drift_128 : decode cX0_drift 128 = .ok (.iconst 0, 1) := by decide +kernel
theorem dX0_drift_129 : decode cX0_drift 129 = .ok (.putfield 103, 3) := by decide +kernel
theorem dX0_drift_132 : decode cX0_drift 132 = .ok (.return_, 1) := by decide +kernel
theorem dX0_duel_0 : decode cX0_duel 0 = .ok (.aload_n 0, 1) := by decide +kernel
theorem dX0_duel_1 : decode cX0_duel 1 = .ok (.iload_n 3, 1) := by decide +kernel
theorem dX0_duel_2 : decode cX0_duel 2 = .ok (.putfield 28, 3) := by decide +kernel
theorem dX0_duel_5 : decode cX0_duel 5 = .ok (.aload_n 0, 1) := by decide +kernel
theorem dX0_duel_6 : decode cX0_duel 6 = .ok (.aload_n 0, 1) := by decide +kernel
theorem dX0_duel_7 : decode cX0_duel 7 = .ok (.getfield 12, 3) := by decide +kernel
theorem dX0_duel_10 : decode cX0_duel 10 = .ok (.iload_n 1, 1) := by decide +kernel
theorem dX0_duel_11 : decode cX0_duel 11 = .ok (.invokevirtual 109, 3) := by decide +kernel
theorem dX0_duel_14 : decode cX0_duel 14 = .ok (.aload_n 0, 1) := by decide +kernel
theorem dX0_duel_15 : decode cX0_duel 15 = .ok (.aload_n 0, 1) := by decide +kernel
theorem dX0_duel_16 : decode cX0_duel 16 = .ok (.getfield 18, 3) := by decide +kernel
theorem dX0_duel_19 : decode cX0_duel 19 = .ok (.iload_n 2, 1) := by decide +kernel
theorem dX0_duel_20 : decode cX0_duel 20 = .ok (.invokevirtual 109, 3) := by decide +kernel
theorem dX0_duel_23 : decode cX0_duel 23 = .ok (.iconst 0, 1) := by decide +kernel
theorem dX0_duel_24 : decode cX0_duel 24 = .ok (.istore 4, 2) := by decide +kernel
theorem dX0_duel_26 : decode cX0_duel 26 = .ok (.iload 4, 2) := by decide +kernel
theorem dX0_duel_28 : decode cX0_duel 28 = .ok (.bipush 8, 2) := by decide +kernel
theorem dX0_duel_30 : decode cX0_duel 30 = .ok (.if_icmp .ge 57, 3) := by decide +kernel
theorem dX0_duel_33 : decode cX0_duel 33 = .ok (.aload_n 0, 1) := by decide +kernel
theorem dX0_duel_34 : decode cX0_duel 34 = .ok (.getfield 12, 3) := by decide +kernel
theorem dX0_duel_37 : decode cX0_duel 37 = .ok (.getfield 96, 3) := by decide +kernel
theorem dX0_duel_40 : decode cX0_duel 40 = .ok (.ifCond .eq 17, 3) := by decide +kernel
theorem dX0_duel_43 : decode cX0_duel 43 = .ok (.aload_n 0, 1) := by decide +kernel
theorem dX0_duel_44 : decode cX0_duel 44 = .ok (.aload_n 0, 1) := by decide +kernel
theorem dX0_duel_45 : decode cX0_duel 45 = .ok (.getfield 12, 3) := by decide +kernel
theorem dX0_duel_48 : decode cX0_duel 48 = .ok (.iload 4, 2) := by decide +kernel
theorem dX0_duel_50 : decode cX0_duel 50 = .ok (.aload_n 0, 1) := by decide +kernel
theorem dX0_duel_51 : decode cX0_duel 51 = .ok (.invokevirtual 113, 3) := by decide +kernel
theorem dX0_duel_54 : decode cX0_duel 54 = .ok (.invokevirtual 117, 3) := by decide +kernel
theorem dX0_duel_57 : decode cX0_duel 57 = .ok (.aload_n 0, 1) := by decide +kernel
theorem dX0_duel_58 : decode cX0_duel 58 = .ok (.getfield 18, 3) := by decide +kernel
theorem dX0_duel_61 : decode cX0_duel 61 = .ok (.getfield 96, 3) := by decide +kernel
theorem dX0_duel_64 : decode cX0_duel 64 = .ok (.ifCond .eq 17, 3) := by decide +kernel
theorem dX0_duel_67 : decode cX0_duel 67 = .ok (.aload_n 0, 1) := by decide +kernel
theorem dX0_duel_68 : decode cX0_duel 68 = .ok (.aload_n 0, 1) := by decide +kernel
theorem dX0_duel_69 : decode cX0_duel 69 = .ok (.getfield 18, 3) := by decide +kernel
theorem dX0_duel_72 : decode cX0_duel 72 = .ok (.iload 4, 2) := by decide +kernel
theorem dX0_duel_74 : decode cX0_duel 74 = .ok (.aload_n 0, 1) := by decide +kernel
theorem dX0_duel_75 : decode cX0_duel 75 = .ok (.invokevirtual 113, 3) := by decide +kernel
theorem dX0_duel_78 : decode cX0_duel 78 = .ok (.invokevirtual 117, 3) := by decide +kernel
theorem dX0_duel_81 : decode cX0_duel 81 = .ok (.iinc 4 1, 3) := by decide +kernel
theorem dX0_duel_84 : decode cX0_duel 84 = .ok (.goto (-58), 3) := by decide +kernel
theorem dX0_duel_87 : decode cX0_duel 87 = .ok (.return_, 1) := by decide +kernel
theorem dX0_gust_0 : decode cX0_gust 0 = .ok (.aload_n 0, 1) := by decide +kernel
theorem dX0_gust_1 : decode cX0_gust 1 = .ok (.ldc 121, 2) := by decide +kernel
theorem dX0_gust_3 : decode cX0_gust 3 = .ok (.aload_n 0, 1) := by decide +kernel
theorem dX0_gust_4 : decode cX0_gust 4 = .ok (.getfield 28, 3) := by decide +kernel
theorem dX0_gust_7 : decode cX0_gust 7 = .ok (.imul, 1) := by decide +kernel
theorem dX0_gust_8 : decode cX0_gust 8 = .ok (.sipush 12345, 3) := by decide +kernel
theorem dX0_gust_11 : decode cX0_gust 11 = .ok (.iadd, 1) := by decide +kernel
theorem dX0_gust_12 : decode cX0_gust 12 = .ok (.putfield 28, 3) := by decide +kernel
theorem dX0_gust_15 : decode cX0_gust 15 = .ok (.aload_n 0, 1) := by decide +kernel
theorem dX0_gust_16 : decode cX0_gust 16 = .ok (.getfield 28, 3) := by decide +kernel
theorem dX0_gust_19 : decode cX0_gust 19 = .ok (.bipush 16, 2) := by decide +kernel
theorem dX0_gust_21 : decode cX0_gust 21 = .ok (.iushr, 1) := by decide +kernel
theorem dX0_gust_22 : decode cX0_gust 22 = .ok (.sipush 32767, 3) := by decide +kernel
theorem dX0_gust_25 : decode cX0_gust 25 = .ok (.iand, 1) := by decide +kernel
theorem dX0_gust_26 : decode cX0_gust 26 = .ok (.iconst 3, 1) := by decide +kernel
theorem dX0_gust_27 : decode cX0_gust 27 = .ok (.irem, 1) := by decide +kernel
theorem dX0_gust_28 : decode cX0_gust 28 = .ok (.iconst 1, 1) := by decide +kernel
theorem dX0_gust_29 : decode cX0_gust 29 = .ok (.isub, 1) := by decide +kernel
theorem dX0_gust_30 : decode cX0_gust 30 = .ok (.ireturn, 1) := by decide +kernel
theorem dX0_ending_0 : decode cX0_ending 0 = .ok (.aload_n 0, 1) := by decide +kernel
theorem dX0_ending_1 : decode cX0_ending 1 = .ok (.getfield 12, 3) := by decide +kernel
theorem dX0_ending_4 : decode cX0_ending 4 = .ok (.getfield 103, 3) := by decide +kernel
theorem dX0_ending_7 : decode cX0_ending 7 = .ok (.aload_n 0, 1) := by decide +kernel
theorem dX0_ending_8 : decode cX0_ending 8 = .ok (.getfield 18, 3) := by decide +kernel
theorem dX0_ending_11 : decode cX0_ending 11 = .ok (.getfield 103, 3) := by decide +kernel
theorem dX0_ending_14 : decode cX0_ending 14 = .ok (.if_icmp .ne 19, 3) := by decide +kernel
theorem dX0_ending_17 : decode cX0_ending 17 = .ok (.aload_n 0, 1) := by decide +kernel
theorem dX0_ending_18 : decode cX0_ending 18 = .ok (.getfield 12, 3) := by decide +kernel
theorem dX0_ending_21 : decode cX0_ending 21 = .ok (.getfield 103, 3) := by decide +kernel
theorem dX0_ending_24 : decode cX0_ending 24 = .ok (.ifCond .ne 7, 3) := by decide +kernel
theorem dX0_ending_27 : decode cX0_ending 27 = .ok (.iconst 4, 1) := by decide +kernel
theorem dX0_ending_28 : decode cX0_ending 28 = .ok (.goto 4, 3) := by decide +kernel
theorem dX0_ending_31 : decode cX0_ending 31 = .ok (.iconst 3, 1) := by decide +kernel
theorem dX0_ending_32 : decode cX0_ending 32 = .ok (.ireturn, 1) := by decide +kernel
theorem dX0_ending_33 : decode cX0_ending 33 = .ok (.aload_n 0, 1) := by decide +kernel
theorem dX0_ending_34 : decode cX0_ending 34 = .ok (.invokevirtual 122, 3) := by decide +kernel
theorem dX0_ending_37 : decode cX0_ending 37 = .ok (.aload_n 0, 1) := by decide +kernel
theorem dX0_ending_38 : decode cX0_ending 38 = .ok (.getfield 12, 3) := by decide +kernel
theorem dX0_ending_41 : decode cX0_ending 41 = .ok (.getfield 103, 3) := by decide +kernel
theorem dX0_ending_44 : decode cX0_ending 44 = .ok (.if_icmp .ne 7, 3) := by decide +kernel
theorem dX0_ending_47 : decode cX0_ending 47 = .ok (.iconst 1, 1) := by decide +kernel
theorem dX0_ending_48 : decode cX0_ending 48 = .ok (.goto 4, 3) := by decide +kernel
theorem dX0_ending_51 : decode cX0_ending 51 = .ok (.iconst 2, 1) := by decide +kernel
theorem dX0_ending_52 : decode cX0_ending 52 = .ok (.ireturn, 1) := by decide +kernel
theorem dX0_firstGood_0 : decode cX0_firstGood 0 = .ok (.aload_n 0, 1) := by decide +kernel
theorem dX0_firstGood_1 : decode cX0_firstGood 1 = .ok (.getfield 12, 3) := by decide +kernel
theorem dX0_firstGood_4 : decode cX0_firstGood 4 = .ok (.getfield 103, 3) := by decide +kernel
theorem dX0_firstGood_7 : decode cX0_firstGood 7 = .ok (.ifCond .eq 13, 3) := by decide +kernel
theorem dX0_firstGood_10 : decode cX0_firstGood 10 = .ok (.aload_n 0, 1) := by decide +kernel
theorem dX0_firstGood_11 : decode cX0_firstGood 11 = .ok (.getfield 18, 3) := by decide +kernel
theorem dX0_firstGood_14 : decode cX0_firstGood 14 = .ok (.getfield 103, 3) := by decide +kernel
theorem dX0_firstGood_17 : decode cX0_firstGood 17 = .ok (.ifCond .ne 21, 3) := by decide +kernel
theorem dX0_firstGood_20 : decode cX0_firstGood 20 = .ok (.aload_n 0, 1) := by decide +kernel
theorem dX0_firstGood_21 : decode cX0_firstGood 21 = .ok (.getfield 12, 3) := by decide +kernel
theorem dX0_firstGood_24 : decode cX0_firstGood 24 = .ok (.getfield 103, 3) := by decide +kernel
theorem dX0_firstGood_27 : decode cX0_firstGood 27 = .ok (.aload_n 0, 1) := by decide +kernel
theorem dX0_firstGood_28 : decode cX0_firstGood 28 = .ok (.getfield 18, 3) := by decide +kernel
theorem dX0_firstGood_31 : decode cX0_firstGood 31 = .ok (.getfield 103, 3) := by decide +kernel
theorem dX0_firstGood_34 : decode cX0_firstGood 34 = .ok (.invokestatic 75, 3) := by decide +kernel
theorem dX0_firstGood_37 : decode cX0_firstGood 37 = .ok (.ireturn, 1) := by decide +kernel
theorem dX0_firstGood_38 : decode cX0_firstGood 38 = .ok (.aload_n 0, 1) := by decide +kernel
theorem dX0_firstGood_39 : decode cX0_firstGood 39 = .ok (.getfield 12, 3) := by decide +kernel
theorem dX0_firstGood_42 : decode cX0_firstGood 42 = .ok (.getfield 103, 3) := by decide +kernel
theorem dX0_firstGood_45 : decode cX0_firstGood 45 = .ok (.aload_n 0, 1) := by decide +kernel
theorem dX0_firstGood_46 : decode cX0_firstGood 46 = .ok (.getfield 18, 3) := by decide +kernel
theorem dX0_firstGood_49 : decode cX0_firstGood 49 = .ok (.getfield 103, 3) := by decide +kernel
theorem dX0_firstGood_52 : decode cX0_firstGood 52 = .ok (.invokestatic 69, 3) := by decide +kernel
theorem dX0_firstGood_55 : decode cX0_firstGood 55 = .ok (.ireturn, 1) := by decide +kernel
theorem dX1_init_0 : decode cX1_init 0 = .ok (.aload_n 0, 1) := by decide +kernel
theorem dX1_init_1 : decode cX1_init 1 = .ok (.invokespecial 3, 3) := by decide +kernel
theorem dX1_init_4 : decode cX1_init 4 = .ok (.aload_n 0, 1) := by decide +kernel
theorem dX1_init_5 : decode cX1_init 5 = .ok (.iconst 0, 1) := by decide +kernel
theorem dX1_init_6 : decode cX1_init 6 = .ok (.putfield 9, 3) := by decide +kernel
theorem dX1_init_9 : decode cX1_init 9 = .ok (.aload_n 0, 1) := by decide +kernel
theorem dX1_init_10 : decode cX1_init 10 = .ok (.iconst 0, 1) := by decide +kernel
theorem dX1_init_11 : decode cX1_init 11 = .ok (.putfield 15, 3) := by decide +kernel
theorem dX1_init_14 : decode cX1_init 14 = .ok (.aload_n 0, 1) := by decide +kernel
theorem dX1_init_15 : decode cX1_init 15 = .ok (.bipush 24, 2) := by decide +kernel
theorem dX1_init_17 : decode cX1_init 17 = .ok (.newarray .int, 2) := by decide +kernel
theorem dX1_init_19 : decode cX1_init 19 = .ok (.putfield 18, 3) := by decide +kernel
theorem dX1_init_22 : decode cX1_init 22 = .ok (.aload_n 0, 1) := by decide +kernel
theorem dX1_init_23 : decode cX1_init 23 = .ok (.bipush 12, 2) := by decide +kernel
theorem dX1_init_25 : decode cX1_init 25 = .ok (.newarray .int, 2) := by decide +kernel
theorem dX1_init_27 : decode cX1_init 27 = .ok (.putfield 22, 3) := by decide +kernel
theorem dX1_init_30 : decode cX1_init 30 = .ok (.aload_n 0, 1) := by decide +kernel
theorem dX1_init_31 : decode cX1_init 31 = .ok (.bipush 12, 2) := by decide +kernel
theorem dX1_init_33 : decode cX1_init 33 = .ok (.newarray .int, 2) := by decide +kernel
theorem dX1_init_35 : decode cX1_init 35 = .ok (.putfield 25, 3) := by decide +kernel
theorem dX1_init_38 : decode cX1_init 38 = .ok (.aload_n 0, 1) := by decide +kernel
theorem dX1_init_39 : decode cX1_init 39 = .ok (.bipush 12, 2) := by decide +kernel
theorem dX1_init_41 : decode cX1_init 41 = .ok (.newarray .int, 2) := by decide +kernel
theorem dX1_init_43 : decode cX1_init 43 = .ok (.putfield 28, 3) := by decide +kernel
theorem dX1_init_46 : decode cX1_init 46 = .ok (.aload_n 0, 1) := by decide +kernel
theorem dX1_init_47 : decode cX1_init 47 = .ok (.bipush 12, 2) := by decide +kernel
theorem dX1_init_49 : decode cX1_init 49 = .ok (.newarray .int, 2) := by decide +kernel
theorem dX1_init_51 : decode cX1_init 51 = .ok (.putfield 31, 3) := by decide +kernel
theorem dX1_init_54 : decode cX1_init 54 = .ok (.return_, 1) := by decide +kernel
theorem dX1_copyFrom_0 : decode cX1_copyFrom 0 = .ok (.aload_n 0, 1) := by decide +kernel
theorem dX1_copyFrom_1 : decode cX1_copyFrom 1 = .ok (.aload_n 1, 1) := by decide +kernel
theorem dX1_copyFrom_2 : decode cX1_copyFrom 2 = .ok (.getfield 9, 3) := by decide +kernel
theorem dX1_copyFrom_5 : decode cX1_copyFrom 5 = .ok (.putfield 9, 3) := by decide +kernel
theorem dX1_copyFrom_8 : decode cX1_copyFrom 8 = .ok (.aload_n 0, 1) := by decide +kernel
theorem dX1_copyFrom_9 : decode cX1_copyFrom 9 = .ok (.aload_n 1, 1) := by decide +kernel
theorem dX1_copyFrom_10 : decode cX1_copyFrom 10 = .ok (.getfield 15, 3) := by decide +kernel
theorem dX1_copyFrom_13 : decode cX1_copyFrom 13 = .ok (.putfield 15, 3) := by decide +kernel
theorem dX1_copyFrom_16 : decode cX1_copyFrom 16 = .ok (.aload_n 1, 1) := by decide +kernel
theorem dX1_copyFrom_17 : decode cX1_copyFrom 17 = .ok (.getfield 18, 3) := by decide +kernel
theorem dX1_copyFrom_20 : decode cX1_copyFrom 20 = .ok (.iconst 0, 1) := by decide +kernel
theorem dX1_copyFrom_21 : decode cX1_copyFrom 21 = .ok (.aload_n 0, 1) := by decide +kernel
theorem dX1_copyFrom_22 : decode cX1_copyFrom 22 = .ok (.getfield 18, 3) := by decide +kernel
theorem dX1_copyFrom_25 : decode cX1_copyFrom 25 = .ok (.iconst 0, 1) := by decide +kernel
theorem dX1_copyFrom_26 : decode cX1_copyFrom 26 = .ok (.aload_n 0, 1) := by decide +kernel
theorem dX1_copyFrom_27 : decode cX1_copyFrom 27 = .ok (.getfield 18, 3) := by decide +kernel
theorem dX1_copyFrom_30 : decode cX1_copyFrom 30 = .ok (.arraylength, 1) := by decide +kernel
theorem dX1_copyFrom_31 : decode cX1_copyFrom 31 = .ok (.invokestatic 34, 3) := by decide +kernel
theorem dX1_copyFrom_34 : decode cX1_copyFrom 34 = .ok (.aload_n 1, 1) := by decide +kernel
theorem dX1_copyFrom_35 : decode cX1_copyFrom 35 = .ok (.getfield 22, 3) := by decide +kernel
theorem dX1_copyFrom_38 : decode cX1_copyFrom 38 = .ok (.iconst 0, 1) := by decide +kernel
theorem dX1_copyFrom_39 : decode cX1_copyFrom 39 = .ok (.aload_n 0, 1) := by decide +kernel
theorem dX1_copyFrom_40 : decode cX1_copyFrom 40 = .ok (.getfield 22, 3) := by decide +kernel
theorem dX1_copyFrom_43 : decode cX1_copyFrom 43 = .ok (.iconst 0, 1) := by decide +kernel
theorem dX1_copyFrom_44 : decode cX1_copyFrom 44 = .ok (.bipush 12, 2) := by decide +kernel
theorem dX1_copyFrom_46 : decode cX1_copyFrom 46 = .ok (.invokestatic 34, 3) := by decide +kernel
theorem dX1_copyFrom_49 : decode cX1_copyFrom 49 = .ok (.aload_n 1, 1) := by decide +kernel
theorem dX1_copyFrom_50 : decode cX1_copyFrom 50 = .ok (.getfield 25, 3) := by decide +kernel
theorem dX1_copyFrom_53 : decode cX1_copyFrom 53 = .ok (.iconst 0, 1) := by decide +kernel
theorem dX1_copyFrom_54 : decode cX1_copyFrom 54 = .ok (.aload_n 0, 1) := by decide +kernel
theorem dX1_copyFrom_55 : decode cX1_copyFrom 55 = .ok (.getfield 25, 3) := by decide +kernel
theorem dX1_copyFrom_58 : decode cX1_copyFrom 58 = .ok (.iconst 0, 1) := by decide +kernel
theorem dX1_copyFrom_59 : decode cX1_copyFrom 59 = .ok (.bipush 12, 2) := by decide +kernel
theorem dX1_copyFrom_61 : decode cX1_copyFrom 61 = .ok (.invokestatic 34, 3) := by decide +kernel
theorem dX1_copyFrom_64 : decode cX1_copyFrom 64 = .ok (.aload_n 1, 1) := by decide +kernel
theorem dX1_copyFrom_65 : decode cX1_copyFrom 65 = .ok (.getfield 28, 3) := by decide +kernel
theorem dX1_copyFrom_68 : decode cX1_copyFrom 68 = .ok (.iconst 0, 1) := by decide +kernel
theorem dX1_copyFrom_69 : decode cX1_copyFrom 69 = .ok (.aload_n 0, 1) := by decide +kernel
theorem dX1_copyFrom_70 : decode cX1_copyFrom 70 = .ok (.getfield 28, 3) := by decide +kernel
theorem dX1_copyFrom_73 : decode cX1_copyFrom 73 = .ok (.iconst 0, 1) := by decide +kernel
theorem dX1_copyFrom_74 : decode cX1_copyFrom 74 = .ok (.bipush 12, 2) := by decide +kernel
theorem dX1_copyFrom_76 : decode cX1_copyFrom 76 = .ok (.invokestatic 34, 3) := by decide +kernel
theorem dX1_copyFrom_79 : decode cX1_copyFrom 79 = .ok (.aload_n 1, 1) := by decide +kernel
theorem dX1_copyFrom_80 : decode cX1_copyFrom 80 = .ok (.getfield 31, 3) := by decide +kernel
theorem dX1_copyFrom_83 : decode cX1_copyFrom 83 = .ok (.iconst 0, 1) := by decide +kernel
theorem dX1_copyFrom_84 : decode cX1_copyFrom 84 = .ok (.aload_n 0, 1) := by decide +kernel
theorem dX1_copyFrom_85 : decode cX1_copyFrom 85 = .ok (.getfield 31, 3) := by decide +kernel
theorem dX1_copyFrom_88 : decode cX1_copyFrom 88 = .ok (.iconst 0, 1) := by decide +kernel
theorem dX1_copyFrom_89 : decode cX1_copyFrom 89 = .ok (.bipush 12, 2) := by decide +kernel
theorem dX1_copyFrom_91 : decode cX1_copyFrom 91 = .ok (.invokestatic 34, 3) := by decide +kernel
theorem dX1_copyFrom_94 : decode cX1_copyFrom 94 = .ok (.return_, 1) := by decide +kernel
theorem dX1_held_0 : decode cX1_held 0 = .ok (.aload_n 0, 1) := by decide +kernel
theorem dX1_held_1 : decode cX1_held 1 = .ok (.getfield 18, 3) := by decide +kernel
theorem dX1_held_4 : decode cX1_held 4 = .ok (.iload_n 1, 1) := by decide +kernel
theorem dX1_held_5 : decode cX1_held 5 = .ok (.bipush 6, 2) := by decide +kernel
theorem dX1_held_7 : decode cX1_held 7 = .ok (.imul, 1) := by decide +kernel
theorem dX1_held_8 : decode cX1_held 8 = .ok (.iload_n 2, 1) := by decide +kernel
theorem dX1_held_9 : decode cX1_held 9 = .ok (.iadd, 1) := by decide +kernel
theorem dX1_held_10 : decode cX1_held 10 = .ok (.iaload, 1) := by decide +kernel
theorem dX1_held_11 : decode cX1_held 11 = .ok (.ireturn, 1) := by decide +kernel
theorem dX1_add_0 : decode cX1_add 0 = .ok (.aload_n 0, 1) := by decide +kernel
theorem dX1_add_1 : decode cX1_add 1 = .ok (.iload_n 1, 1) := by decide +kernel
theorem dX1_add_2 : decode cX1_add 2 = .ok (.iload_n 2, 1) := by decide +kernel
theorem dX1_add_3 : decode cX1_add 3 = .ok (.invokevirtual 40, 3) := by decide +kernel
theorem dX1_add_6 : decode cX1_add 6 = .ok (.istore 4, 2) := by decide +kernel
theorem dX1_add_8 : decode cX1_add 8 = .ok (.iconst 0, 1) := by decide +kernel
theorem dX1_add_9 : decode cX1_add 9 = .ok (.bipush 99, 2) := by decide +kernel
theorem dX1_add_11 : decode cX1_add 11 = .ok (.iload 4, 2) := by decide +kernel
theorem dX1_add_13 : decode cX1_add 13 = .ok (.iload_n 3, 1) := by decide +kernel
theorem dX1_add_14 : decode cX1_add 14 = .ok (.iadd, 1) := by decide +kernel
theorem dX1_add_15 : decode cX1_add 15 = .ok (.invokestatic 44, 3) := by decide +kernel
theorem dX1_add_18 : decode cX1_add 18 = .ok (.invokestatic 49, 3) := by decide +kernel
theorem dX1_add_21 : decode cX1_add 21 = .ok (.istore 5, 2) := by decide +kernel
theorem dX1_add_23 : decode cX1_add 23 = .ok (.aload_n 0, 1) := by decide +kernel
theorem dX1_add_24 : decode cX1_add 24 = .ok (.getfield 18, 3) := by decide +kernel
theorem dX1_add_27 : decode cX1_add 27 = .ok (.iload_n 1, 1) := by decide +kernel
theorem dX1_add_28 : decode cX1_add 28 = .ok (.bipush 6, 2) := by decide +kernel
theorem dX1_add_30 : decode cX1_add 30 = .ok (.imul, 1) := by decide +kernel
theorem dX1_add_31 : decode cX1_add 31 = .ok (.iload_n 2, 1) := by decide +kernel
theorem dX1_add_32 : decode cX1_add 32 = .ok (.iadd, 1) := by decide +kernel
theorem dX1_add_33 : decode cX1_add 33 = .ok (.iload 5, 2) := by decide +kernel
theorem dX1_add_35 : decode cX1_add 35 = .ok (.iastore, 1) := by decide +kernel
theorem dX1_add_36 : decode cX1_add 36 = .ok (.iload 5, 2) := by decide +kernel
theorem dX1_add_38 : decode cX1_add 38 = .ok (.iload 4, 2) := by decide +kernel
theorem dX1_add_40 : decode cX1_add 40 = .ok (.isub, 1) := by decide +kernel
theorem dX1_add_41 : decode cX1_add 41 = .ok (.ireturn, 1) := by decide +kernel
theorem dX1_choices_0 : decode cX1_choices 0 = .ok (.iload_n 2, 1) := by decide +kernel
theorem dX1_choices_1 : decode cX1_choices 1 = .ok (.ifCond .eq 12, 3) := by decide +kernel
theorem dX1_choices_4 : decode cX1_choices 4 = .ok (.aload_n 0, 1) := by decide +kernel
theorem dX1_choices_5 : decode cX1_choices 5 = .ok (.getfield 25, 3) := by decide +kernel
theorem dX1_choices_8 : decode cX1_choices 8 = .ok (.iload_n 1, 1) := by decide +kernel
theorem dX1_choices_9 : decode cX1_choices 9 = .ok (.iaload, 1) := by decide +kernel
theorem dX1_choices_10 : decode cX1_choices 10 = .ok (.goto 9, 3) := by decide +kernel
theorem dX1_choices_13 : decode cX1_choices 13 = .ok (.aload_n 0, 1) := by decide +kernel
theorem dX1_choices_14 : decode cX1_choices 14 = .ok (.getfield 22, 3) := by decide +kernel
theorem dX1_choices_17 : decode cX1_choices 17 = .ok (.iload_n 1, 1) := by decide +kernel
theorem dX1_choices_18 : decode cX1_choices 18 = .ok (.iaload, 1) := by decide +kernel
theorem dX1_choices_19 : decode cX1_choices 19 = .ok (.istore_n 3, 1) := by decide +kernel
theorem dX1_choices_20 : decode cX1_choices 20 = .ok (.iconst 0, 1) := by decide +kernel
theorem dX1_choices_21 : decode cX1_choices 21 = .ok (.istore 4, 2) := by decide +kernel
theorem dX1_choices_23 : decode cX1_choices 23 = .ok (.iconst 0, 1) := by decide +kernel
theorem dX1_choices_24 : decode cX1_choices 24 = .ok (.istore 5, 2) := by decide +kernel
theorem dX1_choices_26 : decode cX1_choices 26 = .ok (.iload 5, 2) := by decide +kernel
theorem dX1_choices_28 : decode cX1_choices 28 = .ok (.bipush 6, 2) := by decide +kernel
theorem dX1_choices_30 : decode cX1_choices 30 = .ok (.if_icmp .ge 42, 3) := by decide +kernel
theorem dX1_choices_33 : decode cX1_choices 33 = .ok (.aload_n 0, 1) := by decide +kernel
theorem dX1_choices_34 : decode cX1_choices 34 = .ok (.getfield 28, 3) := by decide +kernel
theorem dX1_choices_37 : decode cX1_choices 37 = .ok (.iload_n 1, 1) := by decide +kernel
theorem dX1_choices_38 : decode cX1_choices 38 = .ok (.iaload, 1) := by decide +kernel
theorem dX1_choices_39 : decode cX1_choices 39 = .ok (.iload 5, 2) := by decide +kernel
theorem dX1_choices_41 : decode cX1_choices 41 = .ok (.ishr, 1) := by decide +kernel
theorem dX1_choices_42 : decode cX1_choices 42 = .ok (.iconst 1, 1) := by decide +kernel
theorem dX1_choices_43 : decode cX1_choices 43 = .ok (.iand, 1) := by decide +kernel
theorem dX1_choices_44 : decode cX1_choices 44 = .ok (.ifCond .eq 22, 3) := by decide +kernel
theorem dX1_choices_47 : decode cX1_choices 47 = .ok (.aload_n 0, 1) := by decide +kernel
theorem dX1_choices_48 : decode cX1_choices 48 = .ok (.iload_n 3, 1) := by decide +kernel
theorem dX1_choices_49 : decode cX1_choices 49 = .ok (.iload 5, 2) := by decide +kernel
theorem dX1_choices_51 : decode cX1_choices 51 = .ok (.invokevirtual 40, 3) := by decide +kernel
theorem dX1_choices_54 : decode cX1_choices 54 = .ok (.ifCond .le 12, 3) := by decide +kernel
theorem dX1_choices_57 : decode cX1_choices 57 = .ok (.iload 4, 2) := by decide +kernel
theorem dX1_choices_59 : decode cX1_choices 59 = .ok (.iconst 1, 1) := by decide +kernel
theorem dX1_choices_60 : decode cX1_choices 60 = .ok (.iload 5, 2) := by decide +kernel
theorem dX1_choices_62 : decode cX1_choices 62 = .ok (.ishl, 1) := by decide +kernel
theorem dX1_choices_63 : decode cX1_choices 63 = .ok (.ior, 1) := by decide +kernel
theorem dX1_choices_64 : decode cX1_choices 64 = .ok (.istore 4, 2) := by decide +kernel
theorem dX1_choices_66 : decode cX1_choices 66 = .ok (.iinc 5 1, 3) := by decide +kernel
theorem dX1_choices_69 : decode cX1_choices 69 = .ok (.goto (-43), 3) := by decide +kernel
theorem dX1_choices_72 : decode cX1_choices 72 = .ok (.iload 4, 2) := by decide +kernel
theorem dX1_choices_74 : decode cX1_choices 74 = .ok (.ireturn, 1) := by decide +kernel
theorem dX1_openCases_0 : decode cX1_openCases 0 = .ok (.iconst 0, 1) := by decide +kernel
theorem dX1_openCases_1 : decode cX1_openCases 1 = .ok (.istore_n 1, 1) := by decide +kernel
theorem dX1_openCases_2 : decode cX1_openCases 2 = .ok (.iconst 0, 1) := by decide +kernel
theorem dX1_openCases_3 : decode cX1_openCases 3 = .ok (.istore_n 2, 1) := by decide +kernel
theorem dX1_openCases_4 : decode cX1_openCases 4 = .ok (.iload_n 2, 1) := by decide +kernel
theorem dX1_openCases_5 : decode cX1_openCases 5 = .ok (.aload_n 0, 1) := by decide +kernel
theorem dX1_openCases_6 : decode cX1_openCases 6 = .ok (.getfield 15, 3) := by decide +kernel
theorem dX1_openCases_9 : decode cX1_openCases 9 = .ok (.if_icmp .ge 24, 3) := by decide +kernel
theorem dX1_openCases_12 : decode cX1_openCases 12 = .ok (.aload_n 0, 1) := by decide +kernel
theorem dX1_openCases_13 : decode cX1_openCases 13 = .ok (.getfield 31, 3) := by decide +kernel
theorem dX1_openCases_16 : decode cX1_openCases 16 = .ok (.iload_n 2, 1) := by decide +kernel
theorem dX1_openCases_17 : decode cX1_openCases 17 = .ok (.iaload, 1) := by decide +kernel
theorem dX1_openCases_18 : decode cX1_openCases 18 = .ok (.ifCond .ne 9, 3) := by decide +kernel
theorem dX1_openCases_21 : decode cX1_openCases 21 = .ok (.iload_n 1, 1) := by decide +kernel
theorem dX1_openCases_22 : decode cX1_openCases 22 = .ok (.iconst 1, 1) := by decide +kernel
theorem dX1_openCases_23 : decode cX1_openCases 23 = .ok (.iload_n 2, 1) := by decide +kernel
theorem dX1_openCases_24 : decode cX1_openCases 24 = .ok (.ishl, 1) := by decide +kernel
theorem dX1_openCases_25 : decode cX1_openCases 25 = .ok (.ior, 1) := by decide +kernel
theorem dX1_openCases_26 : decode cX1_openCases 26 = .ok (.istore_n 1, 1) := by decide +kernel
theorem dX1_openCases_27 : decode cX1_openCases 27 = .ok (.iinc 2 1, 3) := by decide +kernel
theorem dX1_openCases_30 : decode cX1_openCases 30 = .ok (.goto (-26), 3) := by decide +kernel
theorem dX1_openCases_33 : decode cX1_openCases 33 = .ok (.iload_n 1, 1) := by decide +kernel
theorem dX1_openCases_34 : decode cX1_openCases 34 = .ok (.ireturn, 1) := by decide +kernel
theorem dX1_isCoveredBy_0 : decode cX1_isCoveredBy 0 = .ok (.iconst 0, 1) := by decide +kernel
theorem dX1_isCoveredBy_1 : decode cX1_isCoveredBy 1 = .ok (.istore_n 2, 1) := by decide +kernel
theorem dX1_isCoveredBy_2 : decode cX1_isCoveredBy 2 = .ok (.iload_n 2, 1) := by decide +kernel
theorem dX1_isCoveredBy_3 : decode cX1_isCoveredBy 3 = .ok (.aload_n 0, 1) := by decide +kernel
theorem dX1_isCoveredBy_4 : decode cX1_isCoveredBy 4 = .ok (.getfield 15, 3) := by decide +kernel
theorem dX1_isCoveredBy_7 : decode cX1_isCoveredBy 7 = .ok (.if_icmp .ge 31, 3) := by decide +kernel
theorem dX1_isCoveredBy_10 : decode cX1_isCoveredBy 10 = .ok (.aload_n 0, 1) := by decide +kernel
theorem dX1_isCoveredBy_11 : decode cX1_isCoveredBy 11 = .ok (.getfield 31, 3) := by decide +kernel
theorem dX1_isCoveredBy_14 : decode cX1_isCoveredBy 14 = .ok (.iload_n 2, 1) := by decide +kernel
theorem dX1_isCoveredBy_15 : decode cX1_isCoveredBy 15 = .ok (.iaload, 1) := by decide +kernel
theorem dX1_isCoveredBy_16 : decode cX1_isCoveredBy 16 = .ok (.ifCond .ne 16, 3) := by decide +kernel
theorem dX1_isCoveredBy_19 : decode cX1_isCoveredBy 19 = .ok (.aload_n 0, 1) := by decide +kernel
theorem dX1_isCoveredBy_20 : decode cX1_isCoveredBy 20 = .ok (.getfield 28, 3) := by decide +kernel
theorem dX1_isCoveredBy_23 : decode cX1_isCoveredBy 23 = .ok (.iload_n 2, 1) := by decide +kernel
theorem dX1_isCoveredBy_24 : decode cX1_isCoveredBy 24 = .ok (.iaload, 1) := by decide +kernel
theorem dX1_isCoveredBy_25 : decode cX1_isCoveredBy 25 = .ok (.iload_n 1, 1) := by decide +kernel
theorem dX1_isCoveredBy_26 : decode cX1_isCoveredBy 26 = .ok (.iand, 1) := by decide +kernel
theorem dX1_isCoveredBy_27 : decode cX1_isCoveredBy 27 = .ok (.ifCond .ne 5, 3) := by decide +kernel
theorem dX1_isCoveredBy_30 : decode cX1_isCoveredBy 30 = .ok (.iconst 0, 1) := by decide +kernel
theorem dX1_isCoveredBy_31 : decode cX1_isCoveredBy 31 = .ok (.ireturn, 1) := by decide +kernel
theorem dX1_isCoveredBy_32 : decode cX1_isCoveredBy 32 = .ok (.iinc 2 1, 3) := by decide +kernel
theorem dX1_isCoveredBy_35 : decode cX1_isCoveredBy 35 = .ok (.goto (-33), 3) := by decide +kernel
theorem dX1_isCoveredBy_38 : decode cX1_isCoveredBy 38 = .ok (.iconst 1, 1) := by decide +kernel
theorem dX1_isCoveredBy_39 : decode cX1_isCoveredBy 39 = .ok (.ireturn, 1) := by decide +kernel
theorem dX2_init_0 : decode cX2_init 0 = .ok (.aload_n 0, 1) := by decide +kernel
theorem dX2_init_1 : decode cX2_init 1 = .ok (.invokespecial 3, 3) := by decide +kernel
theorem dX2_init_4 : decode cX2_init 4 = .ok (.aload_n 0, 1) := by decide +kernel
theorem dX2_init_5 : decode cX2_init 5 = .ok (.bipush 7, 2) := by decide +kernel
theorem dX2_init_7 : decode cX2_init 7 = .ok (.putfield 9, 3) := by decide +kernel
theorem dX2_init_10 : decode cX2_init 10 = .ok (.aload_n 0, 1) := by decide +kernel
theorem dX2_init_11 : decode cX2_init 11 = .ok (.bipush 8, 2) := by decide +kernel
theorem dX2_init_13 : decode cX2_init 13 = .ok (.putfield 15, 3) := by decide +kernel
theorem dX2_init_16 : decode cX2_init 16 = .ok (.aload_n 0, 1) := by decide +kernel
theorem dX2_init_17 : decode cX2_init 17 = .ok (.iconst 5, 1) := by decide +kernel
theorem dX2_init_18 : decode cX2_init 18 = .ok (.putfield 18, 3) := by decide +kernel
theorem dX2_init_21 : decode cX2_init 21 = .ok (.aload_n 0, 1) := by decide +kernel
theorem dX2_init_22 : decode cX2_init 22 = .ok (.bipush 9, 2) := by decide +kernel
theorem dX2_init_24 : decode cX2_init 24 = .ok (.putfield 21, 3) := by decide +kernel
theorem dX2_init_27 : decode cX2_init 27 = .ok (.aload_n 0, 1) := by decide +kernel
theorem dX2_init_28 : decode cX2_init 28 = .ok (.bipush 12, 2) := by decide +kernel
theorem dX2_init_30 : decode cX2_init 30 = .ok (.putfield 24, 3) := by decide +kernel
theorem dX2_init_33 : decode cX2_init 33 = .ok (.aload_n 0, 1) := by decide +kernel
theorem dX2_init_34 : decode cX2_init 34 = .ok (.iconst 0, 1) := by decide +kernel
theorem dX2_init_35 : decode cX2_init 35 = .ok (.putfield 27, 3) := by decide +kernel
theorem dX2_init_38 : decode cX2_init 38 = .ok (.aload_n 0, 1) := by decide +kernel
theorem dX2_init_39 : decode cX2_init 39 = .ok (.iconst 1, 1) := by decide +kernel
theorem dX2_init_40 : decode cX2_init 40 = .ok (.putfield 30, 3) := by decide +kernel
theorem dX2_init_43 : decode cX2_init 43 = .ok (.aload_n 0, 1) := by decide +kernel
theorem dX2_init_44 : decode cX2_init 44 = .ok (.iconst 0, 1) := by decide +kernel
theorem dX2_init_45 : decode cX2_init 45 = .ok (.putfield 33, 3) := by decide +kernel
theorem dX2_init_48 : decode cX2_init 48 = .ok (.aload_n 0, 1) := by decide +kernel
theorem dX2_init_49 : decode cX2_init 49 = .ok (.iconst 0, 1) := by decide +kernel
theorem dX2_init_50 : decode cX2_init 50 = .ok (.putfield 36, 3) := by decide +kernel
theorem dX2_init_53 : decode cX2_init 53 = .ok (.aload_n 0, 1) := by decide +kernel
theorem dX2_init_54 : decode cX2_init 54 = .ok (.bipush 13, 2) := by decide +kernel
theorem dX2_init_56 : decode cX2_init 56 = .ok (.newarray .int, 2) := by decide +kernel
theorem dX2_init_58 : decode cX2_init 58 = .ok (.putfield 39, 3) := by decide +kernel
theorem dX2_init_61 : decode cX2_init 61 = .ok (.aload_n 0, 1) := by decide +kernel
theorem dX2_init_62 : decode cX2_init 62 = .ok (.bipush 6, 2) := by decide +kernel
theorem dX2_init_64 : decode cX2_init 64 = .ok (.newarray .int, 2) := by decide +kernel
theorem dX2_init_66 : decode cX2_init 66 = .ok (.putfield 43, 3) := by decide +kernel
theorem dX2_init_69 : decode cX2_init 69 = .ok (.aload_n 0, 1) := by decide +kernel
theorem dX2_init_70 : decode cX2_init 70 = .ok (.bipush 6, 2) := by decide +kernel
theorem dX2_init_72 : decode cX2_init 72 = .ok (.newarray .int, 2) := by decide +kernel
theorem dX2_init_74 : decode cX2_init 74 = .ok (.putfield 46, 3) := by decide +kernel
theorem dX2_init_77 : decode cX2_init 77 = .ok (.aload_n 0, 1) := by decide +kernel
theorem dX2_init_78 : decode cX2_init 78 = .ok (.bipush 6, 2) := by decide +kernel
theorem dX2_init_80 : decode cX2_init 80 = .ok (.newarray .int, 2) := by decide +kernel
theorem dX2_init_82 : decode cX2_init 82 = .ok (.putfield 49, 3) := by decide +kernel
theorem dX2_init_85 : decode cX2_init 85 = .ok (.aload_n 0, 1) := by decide +kernel
theorem dX2_init_86 : decode cX2_init 86 = .ok (.bipush 6, 2) := by decide +kernel
theorem dX2_init_88 : decode cX2_init 88 = .ok (.newarray .int, 2) := by decide +kernel
theorem dX2_init_90 : decode cX2_init 90 = .ok (.putfield 52, 3) := by decide +kernel
theorem dX2_init_93 : decode cX2_init 93 = .ok (.aload_n 0, 1) := by decide +kernel
theorem dX2_init_94 : decode cX2_init 94 = .ok (.new 55, 3) := by decide +kernel
theorem dX2_init_97 : decode cX2_init 97 = .ok (.dup, 1) := by decide +kernel
theorem dX2_init_98 : decode cX2_init 98 = .ok (.invokespecial 57, 3) := by decide +kernel
theorem dX2_init_101 : decode cX2_init 101 = .ok (.putfield 58, 3) := by decide +kernel
theorem dX2_init_104 : decode cX2_init 104 = .ok (.aload_n 0, 1) := by decide +kernel
theorem dX2_init_105 : decode cX2_init 105 = .ok (.new 62, 3) := by decide +kernel
theorem dX2_init_108 : decode cX2_init 108 = .ok (.dup, 1) := by decide +kernel
theorem dX2_init_109 : decode cX2_init 109 = .ok (.invokespecial 64, 3) := by decide +kernel
theorem dX2_init_112 : decode cX2_init 112 = .ok (.putfield 65, 3) := by decide +kernel
theorem dX2_init_115 : decode cX2_init 115 = .ok (.return_, 1) := by decide +kernel
theorem dX2_copyFrom_0 : decode cX2_copyFrom 0 = .ok (.aload_n 0, 1) := by decide +kernel
theorem dX2_copyFrom_1 : decode cX2_copyFrom 1 = .ok (.aload_n 1, 1) := by decide +kernel
theorem dX2_copyFrom_2 : decode cX2_copyFrom 2 = .ok (.getfield 9, 3) := by decide +kernel
theorem dX2_copyFrom_5 : decode cX2_copyFrom 5 = .ok (.putfield 9, 3) := by decide +kernel
theorem dX2_copyFrom_8 : decode cX2_copyFrom 8 = .ok (.aload_n 0, 1) := by decide +kernel
theorem dX2_copyFrom_9 : decode cX2_copyFrom 9 = .ok (.aload_n 1, 1) := by decide +kernel
theorem dX2_copyFrom_10 : decode cX2_copyFrom 10 = .ok (.getfield 15, 3) := by decide +kernel
theorem dX2_copyFrom_13 : decode cX2_copyFrom 13 = .ok (.putfield 15, 3) := by decide +kernel
theorem dX2_copyFrom_16 : decode cX2_copyFrom 16 = .ok (.aload_n 0, 1) := by decide +kernel
theorem dX2_copyFrom_17 : decode cX2_copyFrom 17 = .ok (.aload_n 1, 1) := by decide +kernel
theorem dX2_copyFrom_18 : decode cX2_copyFrom 18 = .ok (.getfield 18, 3) := by decide +kernel
theorem dX2_copyFrom_21 : decode cX2_copyFrom 21 = .ok (.putfield 18, 3) := by decide +kernel
theorem dX2_copyFrom_24 : decode cX2_copyFrom 24 = .ok (.aload_n 0, 1) := by decide +kernel
theorem dX2_copyFrom_25 : decode cX2_copyFrom 25 = .ok (.aload_n 1, 1) := by decide +kernel
theorem dX2_copyFrom_26 : decode cX2_copyFrom 26 = .ok (.getfield 21, 3) := by decide +kernel
theorem dX2_copyFrom_29 : decode cX2_copyFrom 29 = .ok (.putfield 21, 3) := by decide +kernel
theorem dX2_copyFrom_32 : decode cX2_copyFrom 32 = .ok (.aload_n 0, 1) := by decide +kernel
theorem dX2_copyFrom_33 : decode cX2_copyFrom 33 = .ok (.aload_n 1, 1) := by decide +kernel
theorem dX2_copyFrom_34 : decode cX2_copyFrom 34 = .ok (.getfield 24, 3) := by decide +kernel
theorem dX2_copyFrom_37 : decode cX2_copyFrom 37 = .ok (.putfield 24, 3) := by decide +kernel
theorem dX2_copyFrom_40 : decode cX2_copyFrom 40 = .ok (.aload_n 0, 1) := by decide +kernel
theorem dX2_copyFrom_41 : decode cX2_copyFrom 41 = .ok (.aload_n 1, 1) := by decide +kernel
theorem dX2_copyFrom_42 : decode cX2_copyFrom 42 = .ok (.getfield 27, 3) := by decide +kernel
theorem dX2_copyFrom_45 : decode cX2_copyFrom 45 = .ok (.putfield 27, 3) := by decide +kernel
theorem dX2_copyFrom_48 : decode cX2_copyFrom 48 = .ok (.aload_n 0, 1) := by decide +kernel
theorem dX2_copyFrom_49 : decode cX2_copyFrom 49 = .ok (.aload_n 1, 1) := by decide +kernel
theorem dX2_copyFrom_50 : decode cX2_copyFrom 50 = .ok (.getfield 30, 3) := by decide +kernel
theorem dX2_copyFrom_53 : decode cX2_copyFrom 53 = .ok (.putfield 30, 3) := by decide +kernel
theorem dX2_copyFrom_56 : decode cX2_copyFrom 56 = .ok (.aload_n 0, 1) := by decide +kernel
theorem dX2_copyFrom_57 : decode cX2_copyFrom 57 = .ok (.aload_n 1, 1) := by decide +kernel
theorem dX2_copyFrom_58 : decode cX2_copyFrom 58 = .ok (.getfield 33, 3) := by decide +kernel
theorem dX2_copyFrom_61 : decode cX2_copyFrom 61 = .ok (.putfield 33, 3) := by decide +kernel
theorem dX2_copyFrom_64 : decode cX2_copyFrom 64 = .ok (.aload_n 0, 1) := by decide +kernel
theorem dX2_copyFrom_65 : decode cX2_copyFrom 65 = .ok (.aload_n 1, 1) := by decide +kernel
theorem dX2_copyFrom_66 : decode cX2_copyFrom 66 = .ok (.getfield 36, 3) := by decide +kernel
theorem dX2_copyFrom_69 : decode cX2_copyFrom 69 = .ok (.putfield 36, 3) := by decide +kernel
theorem dX2_copyFrom_72 : decode cX2_copyFrom 72 = .ok (.aload_n 1, 1) := by decide +kernel
theorem dX2_copyFrom_73 : decode cX2_copyFrom 73 = .ok (.getfield 39, 3) := by decide +kernel
theorem dX2_copyFrom_76 : decode cX2_copyFrom 76 = .ok (.iconst 0, 1) := by decide +kernel
theorem dX2_copyFrom_77 : decode cX2_copyFrom 77 = .ok (.aload_n 0, 1) := by decide +kernel
theorem dX2_copyFrom_78 : decode cX2_copyFrom 78 = .ok (.getfield 39, 3) := by decide +kernel
theorem dX2_copyFrom_81 : decode cX2_copyFrom 81 = .ok (.iconst 0, 1) := by decide +kernel
theorem dX2_copyFrom_82 : decode cX2_copyFrom 82 = .ok (.bipush 13, 2) := by decide +kernel
theorem dX2_copyFrom_84 : decode cX2_copyFrom 84 = .ok (.invokestatic 69, 3) := by decide +kernel
theorem dX2_copyFrom_87 : decode cX2_copyFrom 87 = .ok (.aload_n 1, 1) := by decide +kernel
theorem dX2_copyFrom_88 : decode cX2_copyFrom 88 = .ok (.getfield 43, 3) := by decide +kernel
theorem dX2_copyFrom_91 : decode cX2_copyFrom 91 = .ok (.iconst 0, 1) := by decide +kernel
theorem dX2_copyFrom_92 : decode cX2_copyFrom 92 = .ok (.aload_n 0, 1) := by decide +kernel
theorem dX2_copyFrom_93 : decode cX2_copyFrom 93 = .ok (.getfield 43, 3) := by decide +kernel
theorem dX2_copyFrom_96 : decode cX2_copyFrom 96 = .ok (.iconst 0, 1) := by decide +kernel
theorem dX2_copyFrom_97 : decode cX2_copyFrom 97 = .ok (.bipush 6, 2) := by decide +kernel
theorem dX2_copyFrom_99 : decode cX2_copyFrom 99 = .ok (.invokestatic 69, 3) := by decide +kernel
theorem dX2_copyFrom_102 : decode cX2_copyFrom 102 = .ok (.aload_n 1, 1) := by decide +kernel
theorem dX2_copyFrom_103 : decode cX2_copyFrom 103 = .ok (.getfield 46, 3) := by decide +kernel
theorem dX2_copyFrom_106 : decode cX2_copyFrom 106 = .ok (.iconst 0, 1) := by decide +kernel
theorem dX2_copyFrom_107 : decode cX2_copyFrom 107 = .ok (.aload_n 0, 1) := by decide +kernel
theorem dX2_copyFrom_108 : decode cX2_copyFrom 108 = .ok (.getfield 46, 3) := by decide +kernel
theorem dX2_copyFrom_111 : decode cX2_copyFrom 111 = .ok (.iconst 0, 1) := by decide +kernel
theorem dX2_copyFrom_112 : decode cX2_copyFrom 112 = .ok (.bipush 6, 2) := by decide +kernel
theorem dX2_copyFrom_114 : decode cX2_copyFrom 114 = .ok (.invokestatic 69, 3) := by decide +kernel
theorem dX2_copyFrom_117 : decode cX2_copyFrom 117 = .ok (.aload_n 1, 1) := by decide +kernel
theorem dX2_copyFrom_118 : decode cX2_copyFrom 118 = .ok (.getfield 49, 3) := by decide +kernel
theorem dX2_copyFrom_121 : decode cX2_copyFrom 121 = .ok (.iconst 0, 1) := by decide +kernel
theorem dX2_copyFrom_122 : decode cX2_copyFrom 122 = .ok (.aload_n 0, 1) := by decide +kernel
theorem dX2_copyFrom_123 : decode cX2_copyFrom 123 = .ok (.getfield 49, 3) := by decide +kernel
theorem dX2_copyFrom_126 : decode cX2_copyFrom 126 = .ok (.iconst 0, 1) := by decide +kernel
theorem dX2_copyFrom_127 : decode cX2_copyFrom 127 = .ok (.bipush 6, 2) := by decide +kernel
theorem dX2_copyFrom_129 : decode cX2_copyFrom 129 = .ok (.invokestatic 69, 3) := by decide +kernel
theorem dX2_copyFrom_132 : decode cX2_copyFrom 132 = .ok (.aload_n 1, 1) := by decide +kernel
theorem dX2_copyFrom_133 : decode cX2_copyFrom 133 = .ok (.getfield 52, 3) := by decide +kernel
theorem dX2_copyFrom_136 : decode cX2_copyFrom 136 = .ok (.iconst 0, 1) := by decide +kernel
theorem dX2_copyFrom_137 : decode cX2_copyFrom 137 = .ok (.aload_n 0, 1) := by decide +kernel
theorem dX2_copyFrom_138 : decode cX2_copyFrom 138 = .ok (.getfield 52, 3) := by decide +kernel
theorem dX2_copyFrom_141 : decode cX2_copyFrom 141 = .ok (.iconst 0, 1) := by decide +kernel
theorem dX2_copyFrom_142 : decode cX2_copyFrom 142 = .ok (.bipush 6, 2) := by decide +kernel
theorem dX2_copyFrom_144 : decode cX2_copyFrom 144 = .ok (.invokestatic 69, 3) := by decide +kernel
theorem dX2_copyFrom_147 : decode cX2_copyFrom 147 = .ok (.aload_n 0, 1) := by decide +kernel
theorem dX2_copyFrom_148 : decode cX2_copyFrom 148 = .ok (.getfield 58, 3) := by decide +kernel
theorem dX2_copyFrom_151 : decode cX2_copyFrom 151 = .ok (.aload_n 1, 1) := by decide +kernel
theorem dX2_copyFrom_152 : decode cX2_copyFrom 152 = .ok (.getfield 58, 3) := by decide +kernel
theorem dX2_copyFrom_155 : decode cX2_copyFrom 155 = .ok (.invokevirtual 75, 3) := by decide +kernel
theorem dX2_copyFrom_158 : decode cX2_copyFrom 158 = .ok (.aload_n 0, 1) := by decide +kernel
theorem dX2_copyFrom_159 : decode cX2_copyFrom 159 = .ok (.getfield 65, 3) := by decide +kernel
theorem dX2_copyFrom_162 : decode cX2_copyFrom 162 = .ok (.aload_n 1, 1) := by decide +kernel
theorem dX2_copyFrom_163 : decode cX2_copyFrom 163 = .ok (.getfield 65, 3) := by decide +kernel
theorem dX2_copyFrom_166 : decode cX2_copyFrom 166 = .ok (.invokevirtual 79, 3) := by decide +kernel
theorem dX2_copyFrom_169 : decode cX2_copyFrom 169 = .ok (.return_, 1) := by decide +kernel
theorem dX2_isCalm_0 : decode cX2_isCalm 0 = .ok (.iconst 0, 1) := by decide +kernel
theorem dX2_isCalm_1 : decode cX2_isCalm 1 = .ok (.istore_n 1, 1) := by decide +kernel
theorem dX2_isCalm_2 : decode cX2_isCalm 2 = .ok (.iload_n 1, 1) := by decide +kernel
theorem dX2_isCalm_3 : decode cX2_isCalm 3 = .ok (.bipush 13, 2) := by decide +kernel
theorem dX2_isCalm_5 : decode cX2_isCalm 5 = .ok (.if_icmp .ge 20, 3) := by decide +kernel
theorem dX2_isCalm_8 : decode cX2_isCalm 8 = .ok (.aload_n 0, 1) := by decide +kernel
theorem dX2_isCalm_9 : decode cX2_isCalm 9 = .ok (.getfield 39, 3) := by decide +kernel
theorem dX2_isCalm_12 : decode cX2_isCalm 12 = .ok (.iload_n 1, 1) := by decide +kernel
theorem dX2_isCalm_13 : decode cX2_isCalm 13 = .ok (.iaload, 1) := by decide +kernel
theorem dX2_isCalm_14 : decode cX2_isCalm 14 = .ok (.ifCond .eq 5, 3) := by decide +kernel
theorem dX2_isCalm_17 : decode cX2_isCalm 17 = .ok (.iconst 0, 1) := by decide +kernel
theorem dX2_isCalm_18 : decode cX2_isCalm 18 = .ok (.ireturn, 1) := by decide +kernel
theorem dX2_isCalm_19 : decode cX2_isCalm 19 = .ok (.iinc 1 1, 3) := by decide +kernel
theorem dX2_isCalm_22 : decode cX2_isCalm 22 = .ok (.goto (-20), 3) := by decide +kernel
theorem dX2_isCalm_25 : decode cX2_isCalm 25 = .ok (.iconst 1, 1) := by decide +kernel
theorem dX2_isCalm_26 : decode cX2_isCalm 26 = .ok (.ireturn, 1) := by decide +kernel
theorem dX2_isYard_0 : decode cX2_isYard 0 = .ok (.iload_n 1, 1) := by decide +kernel
theorem dX2_isYard_1 : decode cX2_isYard 1 = .ok (.aload_n 0, 1) := by decide +kernel
theorem dX2_isYard_2 : decode cX2_isYard 2 = .ok (.getfield 18, 3) := by decide +kernel
theorem dX2_isYard_5 : decode cX2_isYard 5 = .ok (.if_icmp .lt 15, 3) := by decide +kernel
theorem dX2_isYard_8 : decode cX2_isYard 8 = .ok (.iload_n 1, 1) := by decide +kernel
theorem dX2_isYard_9 : decode cX2_isYard 9 = .ok (.aload_n 0, 1) := by decide +kernel
theorem dX2_isYard_10 : decode cX2_isYard 10 = .ok (.getfield 21, 3) := by decide +kernel
theorem dX2_isYard_13 : decode cX2_isYard 13 = .ok (.if_icmp .gt 7, 3) := by decide +kernel
theorem dX2_isYard_16 : decode cX2_isYard 16 = .ok (.iconst 1, 1) := by decide +kernel
theorem dX2_isYard_17 : decode cX2_isYard 17 = .ok (.goto 4, 3) := by decide +kernel
theorem dX2_isYard_20 : decode cX2_isYard 20 = .ok (.iconst 0, 1) := by decide +kernel
theorem dX2_isYard_21 : decode cX2_isYard 21 = .ok (.ireturn, 1) := by decide +kernel
theorem dX2_tunesOf_0 : decode cX2_tunesOf 0 = .ok (.iconst 0, 1) := by decide +kernel
theorem dX2_tunesOf_1 : decode cX2_tunesOf 1 = .ok (.istore_n 2, 1) := by decide +kernel
theorem dX2_tunesOf_2 : decode cX2_tunesOf 2 = .ok (.iconst 0, 1) := by decide +kernel
theorem dX2_tunesOf_3 : decode cX2_tunesOf 3 = .ok (.istore_n 3, 1) := by decide +kernel
theorem dX2_tunesOf_4 : decode cX2_tunesOf 4 = .ok (.iload_n 3, 1) := by decide +kernel
theorem dX2_tunesOf_5 : decode cX2_tunesOf 5 = .ok (.aload_n 0, 1) := by decide +kernel
theorem dX2_tunesOf_6 : decode cX2_tunesOf 6 = .ok (.getfield 36, 3) := by decide +kernel
theorem dX2_tunesOf_9 : decode cX2_tunesOf 9 = .ok (.if_icmp .ge 26, 3) := by decide +kernel
theorem dX2_tunesOf_12 : decode cX2_tunesOf 12 = .ok (.iload_n 1, 1) := by decide +kernel
theorem dX2_tunesOf_13 : decode cX2_tunesOf 13 = .ok (.iload_n 3, 1) := by decide +kernel
theorem dX2_tunesOf_14 : decode cX2_tunesOf 14 = .ok (.ishr, 1) := by decide +kernel
theorem dX2_tunesOf_15 : decode cX2_tunesOf 15 = .ok (.iconst 1, 1) := by decide +kernel
theorem dX2_tunesOf_16 : decode cX2_tunesOf 16 = .ok (.iand, 1) := by decide +kernel
theorem dX2_tunesOf_17 : decode cX2_tunesOf 17 = .ok (.ifCond .eq 12, 3) := by decide +kernel
theorem dX2_tunesOf_20 : decode cX2_tunesOf 20 = .ok (.iload_n 2, 1) := by decide +kernel
theorem dX2_tunesOf_21 : decode cX2_tunesOf 21 = .ok (.aload_n 0, 1) := by decide +kernel
theorem dX2_tunesOf_22 : decode cX2_tunesOf 22 = .ok (.getfield 49, 3) := by decide +kernel
theorem dX2_tunesOf_25 : decode cX2_tunesOf 25 = .ok (.iload_n 3, 1) := by decide +kernel
theorem dX2_tunesOf_26 : decode cX2_tunesOf 26 = .ok (.iaload, 1) := by decide +kernel
theorem dX2_tunesOf_27 : decode cX2_tunesOf 27 = .ok (.ior, 1) := by decide +kernel
theorem dX2_tunesOf_28 : decode cX2_tunesOf 28 = .ok (.istore_n 2, 1) := by decide +kernel
theorem dX2_tunesOf_29 : decode cX2_tunesOf 29 = .ok (.iinc 3 1, 3) := by decide +kernel
theorem dX2_tunesOf_32 : decode cX2_tunesOf 32 = .ok (.goto (-28), 3) := by decide +kernel
theorem dX2_tunesOf_35 : decode cX2_tunesOf 35 = .ok (.iload_n 2, 1) := by decide +kernel
theorem dX2_tunesOf_36 : decode cX2_tunesOf 36 = .ok (.ireturn, 1) := by decide +kernel
theorem dX3_init_0 : decode cX3_init 0 = .ok (.aload_n 0, 1) := by decide +kernel
theorem dX3_init_1 : decode cX3_init 1 = .ok (.invokespecial 3, 3) := by decide +kernel
theorem dX3_init_4 : decode cX3_init 4 = .ok (.aload_n 0, 1) := by decide +kernel
theorem dX3_init_5 : decode cX3_init 5 = .ok (.new 9, 3) := by decide +kernel
theorem dX3_init_8 : decode cX3_init 8 = .ok (.dup, 1) := by decide +kernel
theorem dX3_init_9 : decode cX3_init 9 = .ok (.aload_n 1, 1) := by decide +kernel
theorem dX3_init_10 : decode cX3_init 10 = .ok (.invokespecial 11, 3) := by decide +kernel
theorem dX3_init_13 : decode cX3_init 13 = .ok (.putfield 14, 3) := by decide +kernel
theorem dX3_init_16 : decode cX3_init 16 = .ok (.aload_n 0, 1) := by decide +kernel
theorem dX3_init_17 : decode cX3_init 17 = .ok (.aload_n 2, 1) := by decide +kernel
theorem dX3_init_18 : decode cX3_init 18 = .ok (.putfield 20, 3) := by decide +kernel
theorem dX3_init_21 : decode cX3_init 21 = .ok (.return_, 1) := by decide +kernel
theorem dX3_read_0 : decode cX3_read 0 = .ok (.aload_n 0, 1) := by decide +kernel
theorem dX3_read_1 : decode cX3_read 1 = .ok (.getfield 14, 3) := by decide +kernel
theorem dX3_read_4 : decode cX3_read 4 = .ok (.iload_n 1, 1) := by decide +kernel
theorem dX3_read_5 : decode cX3_read 5 = .ok (.invokevirtual 24, 3) := by decide +kernel
theorem dX3_read_8 : decode cX3_read 8 = .ok (.aload_n 0, 1) := by decide +kernel
theorem dX3_read_9 : decode cX3_read 9 = .ok (.getfield 14, 3) := by decide +kernel
theorem dX3_read_12 : decode cX3_read 12 = .ok (.getfield 28, 3) := by decide +kernel
theorem dX3_read_15 : decode cX3_read 15 = .ok (.ifCond .eq 7, 3) := by decide +kernel
theorem dX3_read_18 : decode cX3_read 18 = .ok (.iconst 1, 1) := by decide +kernel
theorem dX3_read_19 : decode cX3_read 19 = .ok (.goto 4, 3) := by decide +kernel
theorem dX3_read_22 : decode cX3_read 22 = .ok (.iconst 0, 1) := by decide +kernel
theorem dX3_read_23 : decode cX3_read 23 = .ok (.istore_n 2, 1) := by decide +kernel
theorem dX3_read_24 : decode cX3_read 24 = .ok (.iconst 0, 1) := by decide +kernel
theorem dX3_read_25 : decode cX3_read 25 = .ok (.istore_n 3, 1) := by decide +kernel
theorem dX3_read_26 : decode cX3_read 26 = .ok (.iload_n 2, 1) := by decide +kernel
theorem dX3_read_27 : decode cX3_read 27 = .ok (.ifCond .eq 70, 3) := by decide +kernel
theorem dX3_read_30 : decode cX3_read 30 = .ok (.iload_n 3, 1) := by decide +kernel
theorem dX3_read_31 : decode cX3_read 31 = .ok (.bipush 14, 2) := by decide +kernel
theorem dX3_read_33 : decode cX3_read 33 = .ok (.if_icmp .gt 64, 3) := by decide +kernel
theorem dX3_read_36 : decode cX3_read 36 = .ok (.iload_n 3, 1) := by decide +kernel
theorem dX3_read_37 : decode cX3_read 37 = .ok (.bipush 14, 2) := by decide +kernel
theorem dX3_read_39 : decode cX3_read 39 = .ok (.if_icmp .ge 10, 3) := by decide +kernel
theorem dX3_read_42 : decode cX3_read 42 = .ok (.aload_n 0, 1) := by decide +kernel
theorem dX3_read_43 : decode cX3_read 43 = .ok (.invokevirtual 32, 3) := by decide +kernel
theorem dX3_read_46 : decode cX3_read 46 = .ok (.goto 10, 3) := by decide +kernel
theorem dX3_read_49 : decode cX3_read 49 = .ok (.aload_n 0, 1) := by decide +kernel
theorem dX3_read_50 : decode cX3_read 50 = .ok (.getfield 14, 3) := by decide +kernel
theorem dX3_read_53 : decode cX3_read 53 = .ok (.invokevirtual 36, 3) := by decide +kernel
theorem dX3_read_56 : decode cX3_read 56 = .ok (.istore 4, 2) := by decide +kernel
theorem dX3_read_58 : decode cX3_read 58 = .ok (.iload 4, 2) := by decide +kernel
theorem dX3_read_60 : decode cX3_read 60 = .ok (.ifCond .eq 29, 3) := by decide +kernel
theorem dX3_read_63 : decode cX3_read 63 = .ok (.aload_n 0, 1) := by decide +kernel
theorem dX3_read_64 : decode cX3_read 64 = .ok (.getfield 14, 3) := by decide +kernel
theorem dX3_read_67 : decode cX3_read 67 = .ok (.getfield 28, 3) := by decide +kernel
theorem dX3_read_70 : decode cX3_read 70 = .ok (.ifCond .eq 19, 3) := by decide +kernel
theorem dX3_read_73 : decode cX3_read 73 = .ok (.aload_n 0, 1) := by decide +kernel
theorem dX3_read_74 : decode cX3_read 74 = .ok (.getfield 14, 3) := by decide +kernel
theorem dX3_read_77 : decode cX3_read 77 = .ok (.bipush 59, 2) := by decide +kernel
theorem dX3_read_79 : decode cX3_read 79 = .ok (.invokevirtual 39, 3) := by decide +kernel
theorem dX3_read_82 : decode cX3_read 82 = .ok (.ifCond .eq 7, 3) := by decide +kernel
theorem dX3_read_85 : decode cX3_read 85 = .ok (.iconst 1, 1) := by decide +kernel
theorem dX3_read_86 : decode cX3_read 86 = .ok (.goto 4, 3) := by decide +kernel
theorem dX3_read_89 : decode cX3_read 89 = .ok (.iconst 0, 1) := by decide +kernel
theorem dX3_read_90 : decode cX3_read 90 = .ok (.istore_n 2, 1) := by decide +kernel
theorem dX3_read_91 : decode cX3_read 91 = .ok (.iinc 3 1, 3) := by decide +kernel
theorem dX3_read_94 : decode cX3_read 94 = .ok (.goto (-68), 3) := by decide +kernel
theorem dX3_read_97 : decode cX3_read 97 = .ok (.aload_n 0, 1) := by decide +kernel
theorem dX3_read_98 : decode cX3_read 98 = .ok (.getfield 14, 3) := by decide +kernel
theorem dX3_read_101 : decode cX3_read 101 = .ok (.getfield 43, 3) := by decide +kernel
theorem dX3_read_104 : decode cX3_read 104 = .ok (.ireturn, 1) := by decide +kernel
theorem dX3_takesLine_0 : decode cX3_takesLine 0 = .ok (.aload_n 0, 1) := by decide +kernel
theorem dX3_takesLine_1 : decode cX3_takesLine 1 = .ok (.getfield 14, 3) := by decide +kernel
theorem dX3_takesLine_4 : decode cX3_takesLine 4 = .ok (.ldc 46, 2) := by decide +kernel
theorem dX3_takesLine_6 : decode cX3_takesLine 6 = .ok (.invokevirtual 48, 3) := by decide +kernel
theorem dX3_takesLine_9 : decode cX3_takesLine 9 = .ok (.ifCond .eq 8, 3) := by decide +kernel
theorem dX3_takesLine_12 : decode cX3_takesLine 12 = .ok (.aload_n 0, 1) := by decide +kernel
theorem dX3_takesLine_13 : decode cX3_takesLine 13 = .ok (.invokevirtual 52, 3) := by decide +kernel
theorem dX3_takesLine_16 : decode cX3_takesLine 16 = .ok (.ireturn, 1) := by decide +kernel
theorem dX3_takesLine_17 : decode cX3_takesLine 17 = .ok (.aload_n 0, 1) := by decide +kernel
theorem dX3_takesLine_18 : decode cX3_takesLine 18 = .ok (.getfield 14, 3) := by decide +kernel
theorem dX3_takesLine_21 : decode cX3_takesLine 21 = .ok (.ldc 55, 2) := by decide +kernel
theorem dX3_takesLine_23 : decode cX3_takesLine 23 = .ok (.invokevirtual 48, 3) := by decide +kernel
theorem dX3_takesLine_26 : decode cX3_takesLine 26 = .ok (.ifCond .eq 8, 3) := by decide +kernel
theorem dX3_takesLine_29 : decode cX3_takesLine 29 = .ok (.aload_n 0, 1) := by decide +kernel
theorem dX3_takesLine_30 : decode cX3_takesLine 30 = .ok (.invokevirtual 57, 3) := by decide +kernel
theorem dX3_takesLine_33 : decode cX3_takesLine 33 = .ok (.ireturn, 1) := by decide +kernel
theorem dX3_takesLine_34 : decode cX3_takesLine 34 = .ok (.aload_n 0, 1) := by decide +kernel
theorem dX3_takesLine_35 : decode cX3_takesLine 35 = .ok (.getfield 14, 3) := by decide +kernel
theorem dX3_takesLine_38 : decode cX3_takesLine 38 = .ok (.ldc 60, 2) := by decide +kernel
theorem dX3_takesLine_40 : decode cX3_takesLine 40 = .ok (.invokevirtual 48, 3) := by decide +kernel
theorem dX3_takesLine_43 : decode cX3_takesLine 43 = .ok (.ifCond .eq 8, 3) := by decide +kernel
theorem dX3_takesLine_46 : decode cX3_takesLine 46 = .ok (.aload_n 0, 1) := by decide +kernel
theorem dX3_takesLine_47 : decode cX3_takesLine 47 = .ok (.invokevirtual 62, 3) := by decide +kernel
theorem dX3_takesLine_50 : decode cX3_takesLine 50 = .ok (.ireturn, 1) := by decide +kernel
theorem dX3_takesLine_51 : decode cX3_takesLine 51 = .ok (.aload_n 0, 1) := by decide +kernel
theorem dX3_takesLine_52 : decode cX3_takesLine 52 = .ok (.getfield 14, 3) := by decide +kernel
theorem dX3_takesLine_55 : decode cX3_takesLine 55 = .ok (.ldc 65, 2) := by decide +kernel
theorem dX3_takesLine_57 : decode cX3_takesLine 57 = .ok (.invokevirtual 48, 3) := by decide +kernel
theorem dX3_takesLine_60 : decode cX3_takesLine 60 = .ok (.ifCond .eq 8, 3) := by decide +kernel
theorem dX3_takesLine_63 : decode cX3_takesLine 63 = .ok (.aload_n 0, 1) := by decide +kernel
theorem dX3_takesLine_64 : decode cX3_takesLine 64 = .ok (.invokevirtual 67, 3) := by decide +kernel
theorem dX3_takesLine_67 : decode cX3_takesLine 67 = .ok (.ireturn, 1) := by decide +kernel
theorem dX3_takesLine_68 : decode cX3_takesLine 68 = .ok (.aload_n 0, 1) := by decide +kernel
theorem dX3_takesLine_69 : decode cX3_takesLine 69 = .ok (.getfield 14, 3) := by decide +kernel
theorem dX3_takesLine_72 : decode cX3_takesLine 72 = .ok (.ldc 70, 2) := by decide +kernel
theorem dX3_takesLine_74 : decode cX3_takesLine 74 = .ok (.invokevirtual 48, 3) := by decide +kernel
theorem dX3_takesLine_77 : decode cX3_takesLine 77 = .ok (.ifCond .eq 8, 3) := by decide +kernel
theorem dX3_takesLine_80 : decode cX3_takesLine 80 = .ok (.aload_n 0, 1) := by decide +kernel
theorem dX3_takesLine_81 : decode cX3_takesLine 81 = .ok (.invokevirtual 72, 3) := by decide +kernel
theorem dX3_takesLine_84 : decode cX3_takesLine 84 = .ok (.ireturn, 1) := by decide +kernel
theorem dX3_takesLine_85 : decode cX3_takesLine 85 = .ok (.aload_n 0, 1) := by decide +kernel
theorem dX3_takesLine_86 : decode cX3_takesLine 86 = .ok (.getfield 14, 3) := by decide +kernel
theorem dX3_takesLine_89 : decode cX3_takesLine 89 = .ok (.ldc 75, 2) := by decide +kernel
theorem dX3_takesLine_91 : decode cX3_takesLine 91 = .ok (.invokevirtual 48, 3) := by decide +kernel
theorem dX3_takesLine_94 : decode cX3_takesLine 94 = .ok (.ifCond .eq 8, 3) := by decide +kernel
theorem dX3_takesLine_97 : decode cX3_takesLine 97 = .ok (.aload_n 0, 1) := by decide +kernel
theorem dX3_takesLine_98 : decode cX3_takesLine 98 = .ok (.invokevirtual 77, 3) := by decide +kernel
theorem dX3_takesLine_101 : decode cX3_takesLine 101 = .ok (.ireturn, 1) := by decide +kernel
theorem dX3_takesLine_102 : decode cX3_takesLine 102 = .ok (.aload_n 0, 1) := by decide +kernel
theorem dX3_takesLine_103 : decode cX3_takesLine 103 = .ok (.getfield 14, 3) := by decide +kernel
theorem dX3_takesLine_106 : decode cX3_takesLine 106 = .ok (.ldc 80, 2) := by decide +kernel
theorem dX3_takesLine_108 : decode cX3_takesLine 108 = .ok (.iconst 0, 1) := by decide +kernel
theorem dX3_takesLine_109 : decode cX3_takesLine 109 = .ok (.bipush 23, 2) := by decide +kernel
theorem dX3_takesLine_111 : decode cX3_takesLine 111 = .ok (.invokevirtual 82, 3) := by decide +kernel
theorem dX3_takesLine_114 : decode cX3_takesLine 114 = .ok (.ifCond .ne 5, 3) := by decide +kernel
theorem dX3_takesLine_117 : decode cX3_takesLine 117 = .ok (.iconst 0, 1) := by decide +kernel
theorem dX3_takesLine_118 : decode cX3_takesLine 118 = .ok (.ireturn, 1) := by decide +kernel
theorem dX3_takesLine_119 : decode cX3_takesLine 119 = .ok (.aload_n 0, 1) := by decide +kernel
theorem dX3_takesLine_120 : decode cX3_takesLine 120 = .ok (.getfield 20, 3) := by decide +kernel
theorem dX3_takesLine_123 : decode cX3_takesLine 123 = .ok (.aload_n 0, 1) := by decide +kernel
theorem dX3_takesLine_124 : decode cX3_takesLine 124 = .ok (.getfield 14, 3) := by decide +kernel
theorem dX3_takesLine_127 : decode cX3_takesLine 127 = .ok (.getfield 86, 3) := by decide +kernel
theorem dX3_takesLine_130 : decode cX3_takesLine 130 = .ok (.putfield 89, 3) := by decide +kernel
theorem dX3_takesLine_133 : decode cX3_takesLine 133 = .ok (.iconst 1, 1) := by decide +kernel
theorem dX3_takesLine_134 : decode cX3_takesLine 134 = .ok (.ireturn, 1) := by decide +kernel
theorem dX3_takesBird_0 : decode cX3_takesBird 0 = .ok (.aload_n 0, 1) := by decide +kernel
theorem dX3_takesBird_1 : decode cX3_takesBird 1 = .ok (.getfield 20, 3) := by decide +kernel
theorem dX3_takesBird_4 : decode cX3_takesBird 4 = .ok (.getfield 93, 3) := by decide +kernel
theorem dX3_takesBird_7 : decode cX3_takesBird 7 = .ok (.istore_n 1, 1) := by decide +kernel
theorem dX3_takesBird_8 : decode cX3_takesBird 8 = .ok (.iload_n 1, 1) := by decide +kernel
theorem dX3_takesBird_9 : decode cX3_takesBird 9 = .ok (.bipush 6, 2) := by decide +kernel
theorem dX3_takesBird_11 : decode cX3_takesBird 11 = .ok (.if_icmp .lt 11, 3) := by decide +kernel
theorem dX3_takesBird_14 : decode cX3_takesBird 14 = .ok (.aload_n 0, 1) := by decide +kernel
theorem dX3_takesBird_15 : decode cX3_takesBird 15 = .ok (.getfield 14, 3) := by decide +kernel
theorem dX3_takesBird_18 : decode cX3_takesBird 18 = .ok (.invokevirtual 36, 3) := by decide +kernel
theorem dX3_takesBird_21 : decode cX3_takesBird 21 = .ok (.ireturn, 1) := by decide +kernel
theorem dX3_takesBird_22 : decode cX3_takesBird 22 = .ok (.aload_n 0, 1) := by decide +kernel
theorem dX3_takesBird_23 : decode cX3_takesBird 23 = .ok (.getfield 14, 3) := by decide +kernel
theorem dX3_takesBird_26 : decode cX3_takesBird 26 = .ok (.invokevirtual 96, 3) := by decide +kernel
theorem dX3_takesBird_29 : decode cX3_takesBird 29 = .ok (.aload_n 0, 1) := by decide +kernel
theorem dX3_takesBird_30 : decode cX3_takesBird 30 = .ok (.getfield 14, 3) := by decide +kernel
theorem dX3_takesBird_33 : decode cX3_takesBird 33 = .ok (.ldc 99, 2) := by decide +kernel
theorem dX3_takesBird_35 : decode cX3_takesBird 35 = .ok (.iconst 0, 1) := by decide +kernel
theorem dX3_takesBird_36 : decode cX3_takesBird 36 = .ok (.iconst 4, 1) := by decide +kernel
theorem dX3_takesBird_37 : decode cX3_takesBird 37 = .ok (.invokevirtual 82, 3) := by decide +kernel
theorem dX3_takesBird_40 : decode cX3_takesBird 40 = .ok (.ifCond .ne 5, 3) := by decide +kernel
theorem dX3_takesBird_43 : decode cX3_takesBird 43 = .ok (.iconst 0, 1) := by decide +kernel
theorem dX3_takesBird_44 : decode cX3_takesBird 44 = .ok (.ireturn, 1) := by decide +kernel
theorem dX3_takesBird_45 : decode cX3_takesBird 45 = .ok (.aload_n 0, 1) := by decide +kernel
theorem dX3_takesBird_46 : decode cX3_takesBird 46 = .ok (.getfield 20, 3) := by decide +kernel
theorem dX3_takesBird_49 : decode cX3_takesBird 49 = .ok (.getfield 101, 3) := by decide +kernel
theorem dX3_takesBird_52 : decode cX3_takesBird 52 = .ok (.iload_n 1, 1) := by decide +kernel
theorem dX3_takesBird_53 : decode cX3_takesBird 53 = .ok (.aload_n 0, 1) := by decide +kernel
theorem dX3_takesBird_54 : decode cX3_takesBird 54 = .ok (.getfield 14, 3) := by decide +kernel
theorem dX3_takesBird_57 : decode cX3_takesBird 57 = .ok (.getfield 86, 3) := by decide +kernel
theorem dX3_takesBird_60 : decode cX3_takesBird 60 = .ok (.iastore, 1) := by decide +kernel
theorem dX3_takesBird_61 : decode cX3_takesBird 61 = .ok (.aload_n 0, 1) := by decide +kernel
theorem dX3_takesBird_62 : decode cX3_takesBird 62 = .ok (.getfield 14, 3) := by decide +kernel
theorem dX3_takesBird_65 : decode cX3_takesBird 65 = .ok (.ldc 104, 2) := by decide +kernel
theorem dX3_takesBird_67 : decode cX3_takesBird 67 = .ok (.iconst 0, 1) := by decide +kernel
theorem dX3_takesBird_68 : decode cX3_takesBird 68 = .ok (.iconst 3, 1) := by decide +kernel
theorem dX3_takesBird_69 : decode cX3_takesBird 69 = .ok (.invokevirtual 82, 3) := by decide +kernel
theorem dX3_takesBird_72 : decode cX3_takesBird 72 = .ok (.ifCond .ne 5, 3) := by decide +kernel
theorem dX3_takesBird_75 : decode cX3_takesBird 75 = .ok (.iconst 0, 1) := by decide +kernel
theorem dX3_takesBird_76 : decode cX3_takesBird 76 = .ok (.ireturn, 1) := by decide +kernel
theorem dX3_takesBird_77 : decode cX3_takesBird 77 = .ok (.aload_n 0, 1) := by decide +kernel
theorem dX3_takesBird_78 : decode cX3_takesBird 78 = .ok (.getfield 20, 3) := by decide +kernel
theorem dX3_takesBird_81 : decode cX3_takesBird 81 = .ok (.getfield 106, 3) := by decide +kernel
theorem dX3_takesBird_84 : decode cX3_takesBird 84 = .ok (.iload_n 1, 1) := by decide +kernel
theorem dX3_takesBird_85 : decode cX3_takesBird 85 = .ok (.aload_n 0, 1) := by decide +kernel
theorem dX3_takesBird_86 : decode cX3_takesBird 86 = .ok (.getfield 14, 3) := by decide +kernel
theorem dX3_takesBird_89 : decode cX3_takesBird 89 = .ok (.getfield 86, 3) := by decide +kernel
theorem dX3_takesBird_92 : decode cX3_takesBird 92 = .ok (.iastore, 1) := by decide +kernel
theorem dX3_takesBird_93 : decode cX3_takesBird 93 = .ok (.aload_n 0, 1) := by decide +kernel
theorem dX3_takesBird_94 : decode cX3_takesBird 94 = .ok (.getfield 14, 3) := by decide +kernel
theorem dX3_takesBird_97 : decode cX3_takesBird 97 = .ok (.ldc 109, 2) := by decide +kernel
theorem dX3_takesBird_99 : decode cX3_takesBird 99 = .ok (.invokevirtual 111, 3) := by decide +kernel
theorem dX3_takesBird_102 : decode cX3_takesBird 102 = .ok (.ifCond .eq 15, 3) := by decide +kernel
theorem dX3_takesBird_105 : decode cX3_takesBird 105 = .ok (.aload_n 0, 1) := by decide +kernel
theorem dX3_takesBird_106 : decode cX3_takesBird 106 = .ok (.getfield 14, 3) := by decide +kernel
theorem dX3_takesBird_109 : decode cX3_takesBird 109 = .ok (.bipush 6, 2) := by decide +kernel
theorem dX3_takesBird_111 : decode cX3_takesBird 111 = .ok (.invokevirtual 114, 3) := by decide +kernel
theorem dX3_takesBird_114 : decode cX3_takesBird 114 = .ok (.ifCond .ne 5, 3) := by decide +kernel
theorem dX3_takesBird_117 : decode cX3_takesBird 117 = .ok (.iconst 0, 1) := by decide +kernel
theorem dX3_takesBird_118 : decode cX3_takesBird 118 = .ok (.ireturn, 1) := by decide +kernel
theorem dX3_takesBird_119 : decode cX3_takesBird 119 = .ok (.aload_n 0, 1) := by decide +kernel
theorem dX3_takesBird_120 : decode cX3_takesBird 120 = .ok (.getfield 20, 3) := by decide +kernel
theorem dX3_takesBird_123 : decode cX3_takesBird 123 = .ok (.getfield 118, 3) := by decide +kernel
theorem dX3_takesBird_126 : decode cX3_takesBird 126 = .ok (.iload_n 1, 1) := by decide +kernel
theorem dX3_takesBird_127 : decode cX3_takesBird 127 = .ok (.aload_n 0, 1) := by decide +kernel
theorem dX3_takesBird_128 : decode cX3_takesBird 128 = .ok (.getfield 14, 3) := by decide +kernel
theorem dX3_takesBird_131 : decode cX3_takesBird 131 = .ok (.getfield 86, 3) := by decide +kernel
theorem dX3_takesBird_134 : decode cX3_takesBird 134 = .ok (.iastore, 1) := by decide +kernel
theorem dX3_takesBird_135 : decode cX3_takesBird 135 = .ok (.aload_n 0, 1) := by decide +kernel
theorem dX3_takesBird_136 : decode cX3_takesBird 136 = .ok (.getfield 14, 3) := by decide +kernel
theorem dX3_takesBird_139 : decode cX3_takesBird 139 = .ok (.ldc 121, 2) := by decide +kernel
theorem dX3_takesBird_141 : decode cX3_takesBird 141 = .ok (.iconst 0, 1) := by decide +kernel
theorem dX3_takesBird_142 : decode cX3_takesBird 142 = .ok (.iconst 5, 1) := by decide +kernel
theorem dX3_takesBird_143 : decode cX3_takesBird 143 = .ok (.invokevirtual 82, 3) := by decide +kernel
theorem dX3_takesBird_146 : decode cX3_takesBird 146 = .ok (.ifCond .ne 5, 3) := by decide +kernel
theorem dX3_takesBird_149 : decode cX3_takesBird 149 = .ok (.iconst 0, 1) := by decide +kernel
theorem dX3_takesBird_150 : decode cX3_takesBird 150 = .ok (.ireturn, 1) := by decide +kernel
theorem dX3_takesBird_151 : decode cX3_takesBird 151 = .ok (.aload_n 0, 1) := by decide +kernel
theorem dX3_takesBird_152 : decode cX3_takesBird 152 = .ok (.getfield 20, 3) := by decide +kernel
theorem dX3_takesBird_155 : decode cX3_takesBird 155 = .ok (.getfield 123, 3) := by decide +kernel
theorem dX3_takesBird_158 : decode cX3_takesBird 158 = .ok (.iload_n 1, 1) := by decide +kernel
theorem dX3_takesBird_159 : decode cX3_takesBird 159 = .ok (.aload_n 0, 1) := by decide +kernel
theorem dX3_takesBird_160 : decode cX3_takesBird 160 = .ok (.getfield 14, 3) := by decide +kernel
theorem dX3_takesBird_163 : decode cX3_takesBird 163 = .ok (.getfield 86, 3) := by decide +kernel
theorem dX3_takesBird_166 : decode cX3_takesBird 166 = .ok (.iastore, 1) := by decide +kernel
theorem dX3_takesBird_167 : decode cX3_takesBird 167 = .ok (.aload_n 0, 1) := by decide +kernel
theorem dX3_takesBird_168 : decode cX3_takesBird 168 = .ok (.getfield 20, 3) := by decide +kernel
theorem dX3_takesBird_171 : decode cX3_takesBird 171 = .ok (.dup, 1) := by decide +kernel
theorem dX3_takesBird_172 : decode cX3_takesBird 172 = .ok (.getfield 93, 3) := by decide +kernel
theorem dX3_takesBird_175 : decode cX3_takesBird 175 = .ok (.iconst 1, 1) := by decide +kernel
theorem dX3_takesBird_176 : decode cX3_takesBird 176 = .ok (.iadd, 1) := by decide +kernel
theorem dX3_takesBird_177 : decode cX3_takesBird 177 = .ok (.putfield 93, 3) := by decide +kernel
theorem dX3_takesBird_180 : decode cX3_takesBird 180 = .ok (.iconst 1, 1) := by decide +kernel
theorem dX3_takesBird_181 : decode cX3_takesBird 181 = .ok (.ireturn, 1) := by decide +kernel
theorem dX3_takesCounsel_0 : decode cX3_takesCounsel 0 = .ok (.aload_n 0, 1) := by decide +kernel
theorem dX3_takesCounsel_1 : decode cX3_takesCounsel 1 = .ok (.getfield 20, 3) := by decide +kernel
theorem dX3_takesCounsel_4 : decode cX3_takesCounsel 4 = .ok (.getfield 126, 3) := by decide +kernel
theorem dX3_takesCounsel_7 : decode cX3_takesCounsel 7 = .ok (.astore_n 1, 1) := by decide +kernel
theorem dX3_takesCounsel_8 : decode cX3_takesCounsel 8 = .ok (.aload_n 1, 1) := by decide +kernel
theorem dX3_takesCounsel_9 : decode cX3_takesCounsel 9 = .ok (.getfield 130, 3) := by decide +kernel
theorem dX3_takesCounsel_12 : decode cX3_takesCounsel 12 = .ok (.iconst 4, 1) := by decide +kernel
theorem dX3_takesCounsel_13 : decode cX3_takesCounsel 13 = .ok (.if_icmp .lt 11, 3) := by decide +kernel
theorem dX3_takesCounsel_16 : decode cX3_takesCounsel 16 = .ok (.aload_n 0, 1) := by decide +kernel
theorem dX3_takesCounsel_17 : decode cX3_takesCounsel 17 = .ok (.getfield 14, 3) := by decide +kernel
theorem dX3_takesCounsel_20 : decode cX3_takesCounsel 20 = .ok (.invokevirtual 36, 3) := by decide +kernel
theorem dX3_takesCounsel_23 : decode cX3_takesCounsel 23 = .ok (.ireturn, 1) := by decide +kernel
theorem dX3_takesCounsel_24 : decode cX3_takesCounsel 24 = .ok (.aload_n 0, 1) := by decide +kernel
theorem dX3_takesCounsel_25 : decode cX3_takesCounsel 25 = .ok (.getfield 14, 3) := by decide +kernel
theorem dX3_takesCounsel_28 : decode cX3_takesCounsel 28 = .ok (.invokevirtual 96, 3) := by decide +kernel
theorem dX3_takesCounsel_31 : decode cX3_takesCounsel 31 = .ok (.aload_n 0, 1) := by decide +kernel
theorem dX3_takesCounsel_32 : decode cX3_takesCounsel 32 = .ok (.getfield 14, 3) := by decide +kernel
theorem dX3_takesCounsel_35 : decode cX3_takesCounsel 35 = .ok (.getfield 28, 3) := by decide +kernel
theorem dX3_takesCounsel_38 : decode cX3_takesCounsel 38 = .ok (.iconst 2, 1) := by decide +kernel
theorem dX3_takesCounsel_39 : decode cX3_takesCounsel 39 = .ok (.if_icmp .ne 28, 3) := by decide +kernel
theorem dX3_takesCounsel_42 : decode cX3_takesCounsel 42 = .ok (.aload_n 0, 1) := by decide +kernel
theorem dX3_takesCounsel_43 : decode cX3_takesCounsel 43 = .ok (.getfield 14, 3) := by decide +kernel
theorem dX3_takesCounsel_46 : decode cX3_takesCounsel 46 = .ok (.getfield 135, 3) := by decide +kernel
theorem dX3_takesCounsel_49 : decode cX3_takesCounsel 49 = .ok (.aload_n 0, 1) := by decide +kernel
theorem dX3_takesCounsel_50 : decode cX3_takesCounsel 50 = .ok (.getfield 14, 3) := by decide +kernel
theorem dX3_takesCounsel_53 : decode cX3_takesCounsel 53 = .ok (.getfield 138, 3) := by decide +kernel
theorem dX3_takesCounsel_56 : decode cX3_takesCounsel 56 = .ok (.isub, 1) := by decide +kernel
theorem dX3_takesCounsel_57 : decode cX3_takesCounsel 57 = .ok (.aload_n 0, 1) := by decide +kernel
theorem dX3_takesCounsel_58 : decode cX3_takesCounsel 58 = .ok (.getfield 20, 3) := by decide +kernel
theorem dX3_takesCounsel_61 : decode cX3_takesCounsel 61 = .ok (.getfield 93, 3) := by decide +kernel
theorem dX3_takesCounsel_64 : decode cX3_takesCounsel 64 = .ok (.if_icmp .eq 11, 3) := by decide +kernel
theorem dX3_takesCounsel_67 : decode cX3_takesCounsel 67 = .ok (.aload_n 0, 1) := by decide +kernel
theorem dX3_takesCounsel_68 : decode cX3_takesCounsel 68 = .ok (.getfield 14, 3) := by decide +kernel
theorem dX3_takesCounsel_71 : decode cX3_takesCounsel 71 = .ok (.invokevirtual 36, 3) := by decide +kernel
theorem dX3_takesCounsel_74 : decode cX3_takesCounsel 74 = .ok (.ireturn, 1) := by decide +kernel
theorem dX3_takesCounsel_75 : decode cX3_takesCounsel 75 = .ok (.iconst 0, 1) := by decide +kernel
theorem dX3_takesCounsel_76 : decode cX3_takesCounsel 76 = .ok (.istore_n 2, 1) := by decide +kernel
theorem dX3_takesCounsel_77 : decode cX3_takesCounsel 77 = .ok (.iload_n 2, 1) := by decide +kernel
theorem dX3_takesCounsel_78 : decode cX3_takesCounsel 78 = .ok (.aload_n 0, 1) := by decide +kernel
theorem dX3_takesCounsel_79 : decode cX3_takesCounsel 79 = .ok (.getfield 20, 3) := by decide +kernel
theorem dX3_takesCounsel_82 : decode cX3_takesCounsel 82 = .ok (.getfield 93, 3) := by decide +kernel
theorem dX3_takesCounsel_85 : decode cX3_takesCounsel 85 = .ok (.if_icmp .ge 45, 3) := by decide +kernel
theorem dX3_takesCounsel_88 : decode cX3_takesCounsel 88 = .ok (.aload_n 0, 1) := by decide +kernel
theorem dX3_takesCounsel_89 : decode cX3_takesCounsel 89 = .ok (.getfield 14, 3) := by decide +kernel
theorem dX3_takesCounsel_92 : decode cX3_takesCounsel 92 = .ok (.getfield 141, 3) := by decide +kernel
theorem dX3_takesCounsel_95 : decode cX3_takesCounsel 95 = .ok (.aload_n 0, 1) := by decide +kernel
theorem dX3_takesCounsel_96 : decode cX3_takesCounsel 96 = .ok (.getfield 14, 3) := by decide +kernel
theorem dX3_takesCounsel_99 : decode cX3_takesCounsel 99 = .ok (.getfield 138, 3) := by decide +kernel
theorem dX3_takesCounsel_102 : decode cX3_takesCounsel 102 = .ok (.iload_n 2, 1) := by decide +kernel
theorem dX3_takesCounsel_103 : decode cX3_takesCounsel 103 = .ok (.iadd, 1) := by decide +kernel
theorem dX3_takesCounsel_104 : decode cX3_takesCounsel 104 = .ok (.iaload, 1) := by decide +kernel
theorem dX3_takesCounsel_105 : decode cX3_takesCounsel 105 = .ok (.bipush 48, 2) := by decide +kernel
theorem dX3_takesCounsel_107 : decode cX3_takesCounsel 107 = .ok (.isub, 1) := by decide +kernel
theorem dX3_takesCounsel_108 : decode cX3_takesCounsel 108 = .ok (.istore_n 3, 1) := by decide +kernel
theorem dX3_takesCounsel_109 : decode cX3_takesCounsel 109 = .ok (.aload_n 1, 1) := by decide +kernel
theorem dX3_takesCounsel_110 : decode cX3_takesCounsel 110 = .ok (.getfield 144, 3) := by decide +kernel
theorem dX3_takesCounsel_113 : decode cX3_takesCounsel 113 = .ok (.aload_n 1, 1) := by decide +kernel
theorem dX3_takesCounsel_114 : decode cX3_takesCounsel 114 = .ok (.getfield 130, 3) := by decide +kernel
theorem dX3_takesCounsel_117 : decode cX3_takesCounsel 117 = .ok (.bipush 6, 2) := by decide +kernel
theorem dX3_takesCounsel_119 : decode cX3_takesCounsel 119 = .ok (.imul, 1) := by decide +kernel
theorem dX3_takesCounsel_120 : decode cX3_takesCounsel 120 = .ok (.iload_n 2, 1) := by decide +kernel
theorem dX3_takesCounsel_121 : decode cX3_takesCounsel 121 = .ok (.iadd, 1) := by decide +kernel
theorem dX3_takesCounsel_122 : decode cX3_takesCounsel 122 = .ok (.iload_n 3, 1) := by decide +kernel
theorem dX3_takesCounsel_123 : decode cX3_takesCounsel 123 = .ok (.iastore, 1) := by decide +kernel
theorem dX3_takesCounsel_124 : decode cX3_takesCounsel 124 = .ok (.iinc 2 1, 3) := by decide +kernel
theorem dX3_takesCounsel_127 : decode cX3_takesCounsel 127 = .ok (.goto (-50), 3) := by decide +kernel
theorem dX3_takesCounsel_130 : decode cX3_takesCounsel 130 = .ok (.aload_n 1, 1) := by decide +kernel
theorem dX3_takesCounsel_131 : decode cX3_takesCounsel 131 = .ok (.dup, 1) := by decide +kernel
theorem dX3_takesCounsel_132 : decode cX3_takesCounsel 132 = .ok (.getfield 130, 3) := by decide +kernel
theorem dX3_takesCounsel_135 : decode cX3_takesCounsel 135 = .ok (.iconst 1, 1) := by decide +kernel
theorem dX3_takesCounsel_136 : decode cX3_takesCounsel 136 = .ok (.iadd, 1) := by decide +kernel
theorem dX3_takesCounsel_137 : decode cX3_takesCounsel 137 = .ok (.putfield 130, 3) := by decide +kernel
theorem dX3_takesCounsel_140 : decode cX3_takesCounsel 140 = .ok (.aload_n 0, 1) := by decide +kernel
theorem dX3_takesCounsel_141 : decode cX3_takesCounsel 141 = .ok (.getfield 14, 3) := by decide +kernel
theorem dX3_takesCounsel_144 : decode cX3_takesCounsel 144 = .ok (.invokevirtual 96, 3) := by decide +kernel
theorem dX3_takesCounsel_147 : decode cX3_takesCounsel 147 = .ok (.iconst 1, 1) := by decide +kernel
theorem dX3_takesCounsel_148 : decode cX3_takesCounsel 148 = .ok (.ireturn, 1) := by decide +kernel
theorem dX3_takesCase_0 : decode cX3_takesCase 0 = .ok (.aload_n 0, 1) := by decide +kernel
theorem dX3_takesCase_1 : decode cX3_takesCase 1 = .ok (.getfield 20, 3) := by decide +kernel
theorem dX3_takesCase_4 : decode cX3_takesCase 4 = .ok (.getfield 126, 3) := by decide +kernel
theorem dX3_takesCase_7 : decode cX3_takesCase 7 = .ok (.astore_n 1, 1) := by decide +kernel
theorem dX3_takesCase_8 : decode cX3_takesCase 8 = .ok (.aload_n 1, 1) := by decide +kernel
theorem dX3_takesCase_9 : decode cX3_takesCase 9 = .ok (.getfield 147, 3) := by decide +kernel
theorem dX3_takesCase_12 : decode cX3_takesCase 12 = .ok (.istore_n 2, 1) := by decide +kernel
theorem dX3_takesCase_13 : decode cX3_takesCase 13 = .ok (.iload_n 2, 1) := by decide +kernel
theorem dX3_takesCase_14 : decode cX3_takesCase 14 = .ok (.bipush 12, 2) := by decide +kernel
theorem dX3_takesCase_16 : decode cX3_takesCase 16 = .ok (.if_icmp .lt 11, 3) := by decide +kernel
theorem dX3_takesCase_19 : decode cX3_takesCase 19 = .ok (.aload_n 0, 1) := by decide +kernel
theorem dX3_takesCase_20 : decode cX3_takesCase 20 = .ok (.getfield 14, 3) := by decide +kernel
theorem dX3_takesCase_23 : decode cX3_takesCase 23 = .ok (.invokevirtual 36, 3) := by decide +kernel
theorem dX3_takesCase_26 : decode cX3_takesCase 26 = .ok (.ireturn, 1) := by decide +kernel
theorem dX3_takesCase_27 : decode cX3_takesCase 27 = .ok (.aload_n 0, 1) := by decide +kernel
theorem dX3_takesCase_28 : decode cX3_takesCase 28 = .ok (.getfield 14, 3) := by decide +kernel
theorem dX3_takesCase_31 : decode cX3_takesCase 31 = .ok (.invokevirtual 96, 3) := by decide +kernel
theorem dX3_takesCase_34 : decode cX3_takesCase 34 = .ok (.aload_n 0, 1) := by decide +kernel
theorem dX3_takesCase_35 : decode cX3_takesCase 35 = .ok (.getfield 14, 3) := by decide +kernel
theorem dX3_takesCase_38 : decode cX3_takesCase 38 = .ok (.iconst 0, 1) := by decide +kernel
theorem dX3_takesCase_39 : decode cX3_takesCase 39 = .ok (.aload_n 1, 1) := by decide +kernel
theorem dX3_takesCase_40 : decode cX3_takesCase 40 = .ok (.getfield 130, 3) := by decide +kernel
theorem dX3_takesCase_43 : decode cX3_takesCase 43 = .ok (.iconst 1, 1) := by decide +kernel
theorem dX3_takesCase_44 : decode cX3_takesCase 44 = .ok (.isub, 1) := by decide +kernel
theorem dX3_takesCase_45 : decode cX3_takesCase 45 = .ok (.invokevirtual 150, 3) := by decide +kernel
theorem dX3_takesCase_48 : decode cX3_takesCase 48 = .ok (.ifCond .ne 5, 3) := by decide +kernel
theorem dX3_takesCase_51 : decode cX3_takesCase 51 = .ok (.iconst 0, 1) := by decide +kernel
theorem dX3_takesCase_52 : decode cX3_takesCase 52 = .ok (.ireturn, 1) := by decide +kernel
theorem dX3_takesCase_53 : decode cX3_takesCase 53 = .ok (.aload_n 1, 1) := by decide +kernel
theorem dX3_takesCase_54 : decode cX3_takesCase 54 = .ok (.getfield 154, 3) := by decide +kernel
theorem dX3_takesCase_57 : decode cX3_takesCase 57 = .ok (.iload_n 2, 1) := by decide +kernel
theorem dX3_takesCase_58 : decode cX3_takesCase 58 = .ok (.aload_n 0, 1) := by decide +kernel
theorem dX3_takesCase_59 : decode cX3_takesCase 59 = .ok (.getfield 14, 3) := by decide +kernel
theorem dX3_takesCase_62 : decode cX3_takesCase 62 = .ok (.getfield 86, 3) := by decide +kernel
theorem dX3_takesCase_65 : decode cX3_takesCase 65 = .ok (.iastore, 1) := by decide +kernel
theorem dX3_takesCase_66 : decode cX3_takesCase 66 = .ok (.aload_n 0, 1) := by decide +kernel
theorem dX3_takesCase_67 : decode cX3_takesCase 67 = .ok (.getfield 14, 3) := by decide +kernel
theorem dX3_takesCase_70 : decode cX3_takesCase 70 = .ok (.getfield 138, 3) := by decide +kernel
theorem dX3_takesCase_73 : decode cX3_takesCase 73 = .ok (.istore_n 3, 1) := by decide +kernel
theorem dX3_takesCase_74 : decode cX3_takesCase 74 = .ok (.aload_n 0, 1) := by decide +kernel
theorem dX3_takesCase_75 : decode cX3_takesCase 75 = .ok (.getfield 14, 3) := by decide +kernel
theorem dX3_takesCase_78 : decode cX3_takesCase 78 = .ok (.iconst 0, 1) := by decide +kernel
theorem dX3_takesCase_79 : decode cX3_takesCase 79 = .ok (.aload_n 1, 1) := by decide +kernel
theorem dX3_takesCase_80 : decode cX3_takesCase 80 = .ok (.getfield 130, 3) := by decide +kernel
theorem dX3_takesCase_83 : decode cX3_takesCase 83 = .ok (.iconst 1, 1) := by decide +kernel
theorem dX3_takesCase_84 : decode cX3_takesCase 84 = .ok (.isub, 1) := by decide +kernel
theorem dX3_takesCase_85 : decode cX3_takesCase 85 = .ok (.invokevirtual 150, 3) := by decide +kernel
theorem dX3_takesCase_88 : decode cX3_takesCase 88 = .ok (.ifCond .ne 5, 3) := by decide +kernel
theorem dX3_takesCase_91 : decode cX3_takesCase 91 = .ok (.iconst 0, 1) := by decide +kernel
theorem dX3_takesCase_92 : decode cX3_takesCase 92 = .ok (.ireturn, 1) := by decide +kernel
theorem dX3_takesCase_93 : decode cX3_takesCase 93 = .ok (.aload_n 1, 1) := by decide +kernel
theorem dX3_takesCase_94 : decode cX3_takesCase 94 = .ok (.getfield 157, 3) := by decide +kernel
theorem dX3_takesCase_97 : decode cX3_takesCase 97 = .ok (.iload_n 2, 1) := by decide +kernel
theorem dX3_takesCase_98 : decode cX3_takesCase 98 = .ok (.aload_n 0, 1) := by decide +kernel
theorem dX3_takesCase_99 : decode cX3_takesCase 99 = .ok (.getfield 14, 3) := by decide +kernel
theorem dX3_takesCase_102 : decode cX3_takesCase 102 = .ok (.getfield 86, 3) := by decide +kernel
theorem dX3_takesCase_105 : decode cX3_takesCase 105 = .ok (.iastore, 1) := by decide +kernel
theorem dX3_takesCase_106 : decode cX3_takesCase 106 = .ok (.aload_n 1, 1) := by decide +kernel
theorem dX3_takesCase_107 : decode cX3_takesCase 107 = .ok (.getfield 157, 3) := by decide +kernel
theorem dX3_takesCase_110 : decode cX3_takesCase 110 = .ok (.iload_n 2, 1) := by decide +kernel
theorem dX3_takesCase_111 : decode cX3_takesCase 111 = .ok (.iaload, 1) := by decide +kernel
theorem dX3_takesCase_112 : decode cX3_takesCase 112 = .ok (.aload_n 1, 1) := by decide +kernel
theorem dX3_takesCase_113 : decode cX3_takesCase 113 = .ok (.getfield 154, 3) := by decide +kernel
theorem dX3_takesCase_116 : decode cX3_takesCase 116 = .ok (.iload_n 2, 1) := by decide +kernel
theorem dX3_takesCase_117 : decode cX3_takesCase 117 = .ok (.iaload, 1) := by decide +kernel
theorem dX3_takesCase_118 : decode cX3_takesCase 118 = .ok (.if_icmp .ne 13, 3) := by decide +kernel
theorem dX3_takesCase_121 : decode cX3_takesCase 121 = .ok (.aload_n 0, 1) := by decide +kernel
theorem dX3_takesCase_122 : decode cX3_takesCase 122 = .ok (.getfield 14, 3) := by decide +kernel
theorem dX3_takesCase_125 : decode cX3_takesCase 125 = .ok (.iload_n 3, 1) := by decide +kernel
theorem dX3_takesCase_126 : decode cX3_takesCase 126 = .ok (.putfield 43, 3) := by decide +kernel
theorem dX3_takesCase_129 : decode cX3_takesCase 129 = .ok (.iconst 0, 1) := by decide +kernel
theorem dX3_takesCase_130 : decode cX3_takesCase 130 = .ok (.ireturn, 1) := by decide +kernel
theorem dX3_takesCase_131 : decode cX3_takesCase 131 = .ok (.aload_n 0, 1) := by decide +kernel
theorem dX3_takesCase_132 : decode cX3_takesCase 132 = .ok (.getfield 14, 3) := by decide +kernel
theorem dX3_takesCase_135 : decode cX3_takesCase 135 = .ok (.ldc 160, 2) := by decide +kernel
theorem dX3_takesCase_137 : decode cX3_takesCase 137 = .ok (.invokevirtual 111, 3) := by decide +kernel
theorem dX3_takesCase_140 : decode cX3_takesCase 140 = .ok (.ifCond .eq 20, 3) := by decide +kernel
theorem dX3_takesCase_143 : decode cX3_takesCase 143 = .ok (.aload_n 0, 1) := by decide +kernel
theorem dX3_takesCase_144 : decode cX3_takesCase 144 = .ok (.getfield 14, 3) := by decide +kernel
theorem dX3_takesCase_147 : decode cX3_takesCase 147 = .ok (.aload_n 0, 1) := by decide +kernel
theorem dX3_takesCase_148 : decode cX3_takesCase 148 = .ok (.getfield 20, 3) := by decide +kernel
theorem dX3_takesCase_151 : decode cX3_takesCase 151 = .ok (.getfield 93, 3) := by decide +kernel
theorem dX3_takesCase_154 : decode cX3_takesCase 154 = .ok (.invokevirtual 114, 3) := by decide +kernel
theorem dX3_takesCase_157 : decode cX3_takesCase 157 = .ok (.ifCond .ne 5, 3) := by decide +kernel
theorem dX3_takesCase_160 : decode cX3_takesCase 160 = .ok (.iconst 0, 1) := by decide +kernel
theorem dX3_takesCase_161 : decode cX3_takesCase 161 = .ok (.ireturn, 1) := by decide +kernel
theorem dX3_takesCase_162 : decode cX3_takesCase 162 = .ok (.aload_n 1, 1) := by decide +kernel
theorem dX3_takesCase_163 : decode cX3_takesCase 163 = .ok (.getfield 162, 3) := by decide +kernel
theorem dX3_takesCase_166 : decode cX3_takesCase 166 = .ok (.iload_n 2, 1) := by decide +kernel
theorem dX3_takesCase_167 : decode cX3_takesCase 167 = .ok (.aload_n 0, 1) := by decide +kernel
theorem dX3_takesCase_168 : decode cX3_takesCase 168 = .ok (.getfield 14, 3) := by decide +kernel
theorem dX3_takesCase_171 : decode cX3_takesCase 171 = .ok (.getfield 86, 3) := by decide +kernel
theorem dX3_takesCase_174 : decode cX3_takesCase 174 = .ok (.iastore, 1) := by decide +kernel
theorem dX3_takesCase_175 : decode cX3_takesCase 175 = .ok (.aload_n 1, 1) := by decide +kernel
theorem dX3_takesCase_176 : decode cX3_takesCase 176 = .ok (.getfield 164, 3) := by decide +kernel
theorem dX3_takesCase_179 : decode cX3_takesCase 179 = .ok (.iload_n 2, 1) := by decide +kernel
theorem dX3_takesCase_180 : decode cX3_takesCase 180 = .ok (.iconst 0, 1) := by decide +kernel
theorem dX3_takesCase_181 : decode cX3_takesCase 181 = .ok (.iastore, 1) := by decide +kernel
theorem dX3_takesCase_182 : decode cX3_takesCase 182 = .ok (.aload_n 1, 1) := by decide +kernel
theorem dX3_takesCase_183 : decode cX3_takesCase 183 = .ok (.dup, 1) := by decide +kernel
theorem dX3_takesCase_184 : decode cX3_takesCase 184 = .ok (.getfield 147, 3) := by decide +kernel
theorem dX3_takesCase_187 : decode cX3_takesCase 187 = .ok (.iconst 1, 1) := by decide +kernel
theorem dX3_takesCase_188 : decode cX3_takesCase 188 = .ok (.iadd, 1) := by decide +kernel
theorem dX3_takesCase_189 : decode cX3_takesCase 189 = .ok (.putfield 147, 3) := by decide +kernel
theorem dX3_takesCase_192 : decode cX3_takesCase 192 = .ok (.iconst 1, 1) := by decide +kernel
theorem dX3_takesCase_193 : decode cX3_takesCase 193 = .ok (.ireturn, 1) := by decide +kernel
theorem dX3_takesTower_0 : decode cX3_takesTower 0 = .ok (.aload_n 0, 1) := by decide +kernel
theorem dX3_takesTower_1 : decode cX3_takesTower 1 = .ok (.getfield 14, 3) := by decide +kernel
theorem dX3_takesTower_4 : decode cX3_takesTower 4 = .ok (.ldc 65, 2) := by decide +kernel
theorem dX3_takesTower_6 : decode cX3_takesTower 6 = .ok (.iconst 0, 1) := by decide +kernel
theorem dX3_takesTower_7 : decode cX3_takesTower 7 = .ok (.bipush 15, 2) := by decide +kernel
theorem dX3_takesTower_9 : decode cX3_takesTower 9 = .ok (.invokevirtual 82, 3) := by decide +kernel
theorem dX3_takesTower_12 : decode cX3_takesTower 12 = .ok (.ifCond .ne 5, 3) := by decide +kernel
theorem dX3_takesTower_15 : decode cX3_takesTower 15 = .ok (.iconst 0, 1) := by decide +kernel
theorem dX3_takesTower_16 : decode cX3_takesTower 16 = .ok (.ireturn, 1) := by decide +kernel
theorem dX3_takesTower_17 : decode cX3_takesTower 17 = .ok (.aload_n 0, 1) := by decide +kernel
theorem dX3_takesTower_18 : decode cX3_takesTower 18 = .ok (.getfield 20, 3) := by decide +kernel
theorem dX3_takesTower_21 : decode cX3_takesTower 21 = .ok (.aload_n 0, 1) := by decide +kernel
theorem dX3_takesTower_22 : decode cX3_takesTower 22 = .ok (.getfield 14, 3) := by decide +kernel
theorem dX3_takesTower_25 : decode cX3_takesTower 25 = .ok (.getfield 86, 3) := by decide +kernel
theorem dX3_takesTower_28 : decode cX3_takesTower 28 = .ok (.putfield 167, 3) := by decide +kernel
theorem dX3_takesTower_31 : decode cX3_takesTower 31 = .ok (.aload_n 0, 1) := by decide +kernel
theorem dX3_takesTower_32 : decode cX3_takesTower 32 = .ok (.getfield 14, 3) := by decide +kernel
theorem dX3_takesTower_35 : decode cX3_takesTower 35 = .ok (.ldc 169, 2) := by decide +kernel
theorem dX3_takesTower_37 : decode cX3_takesTower 37 = .ok (.iconst 1, 1) := by decide +kernel
theorem dX3_takesTower_38 : decode cX3_takesTower 38 = .ok (.bipush 12, 2) := by decide +kernel
theorem dX3_takesTower_40 : decode cX3_takesTower 40 = .ok (.invokevirtual 82, 3) := by decide +kernel
theorem dX3_takesTower_43 : decode cX3_takesTower 43 = .ok (.ifCond .ne 5, 3) := by decide +kernel
theorem dX3_takesTower_46 : decode cX3_takesTower 46 = .ok (.iconst 0, 1) := by decide +kernel
theorem dX3_takesTower_47 : decode cX3_takesTower 47 = .ok (.ireturn, 1) := by decide +kernel
theorem dX3_takesTower_48 : decode cX3_takesTower 48 = .ok (.aload_n 0, 1) := by decide +kernel
theorem dX3_takesTower_49 : decode cX3_takesTower 49 = .ok (.getfield 20, 3) := by decide +kernel
theorem dX3_takesTower_52 : decode cX3_takesTower 52 = .ok (.aload_n 0, 1) := by decide +kernel
theorem dX3_takesTower_53 : decode cX3_takesTower 53 = .ok (.getfield 14, 3) := by decide +kernel
theorem dX3_takesTower_56 : decode cX3_takesTower 56 = .ok (.getfield 86, 3) := by decide +kernel
theorem dX3_takesTower_59 : decode cX3_takesTower 59 = .ok (.putfield 171, 3) := by decide +kernel
theorem dX3_takesTower_62 : decode cX3_takesTower 62 = .ok (.iconst 1, 1) := by decide +kernel
theorem dX3_takesTower_63 : decode cX3_takesTower 63 = .ok (.ireturn, 1) := by decide +kernel
theorem dX3_takesYard_0 : decode cX3_takesYard 0 = .ok (.aload_n 0, 1) := by decide +kernel
theorem dX3_takesYard_1 : decode cX3_takesYard 1 = .ok (.getfield 14, 3) := by decide +kernel
theorem dX3_takesYard_4 : decode cX3_takesYard 4 = .ok (.ldc 70, 2) := by decide +kernel
theorem dX3_takesYard_6 : decode cX3_takesYard 6 = .ok (.iconst 0, 1) := by decide +kernel
theorem dX3_takesYard_7 : decode cX3_takesYard 7 = .ok (.bipush 15, 2) := by decide +kernel
theorem dX3_takesYard_9 : decode cX3_takesYard 9 = .ok (.invokevirtual 82, 3) := by decide +kernel
theorem dX3_takesYard_12 : decode cX3_takesYard 12 = .ok (.ifCond .ne 5, 3) := by decide +kernel
theorem dX3_takesYard_15 : decode cX3_takesYard 15 = .ok (.iconst 0, 1) := by decide +kernel
theorem dX3_takesYard_16 : decode cX3_takesYard 16 = .ok (.ireturn, 1) := by decide +kernel
theorem dX3_takesYard_17 : decode cX3_takesYard 17 = .ok (.aload_n 0, 1) := by decide +kernel
theorem dX3_takesYard_18 : decode cX3_takesYard 18 = .ok (.getfield 20, 3) := by decide +kernel
theorem dX3_takesYard_21 : decode cX3_takesYard 21 = .ok (.aload_n 0, 1) := by decide +kernel
theorem dX3_takesYard_22 : decode cX3_takesYard 22 = .ok (.getfield 14, 3) := by decide +kernel
theorem dX3_takesYard_25 : decode cX3_takesYard 25 = .ok (.getfield 86, 3) := by decide +kernel
theorem dX3_takesYard_28 : decode cX3_takesYard 28 = .ok (.putfield 173, 3) := by decide +kernel
theorem dX3_takesYard_31 : decode cX3_takesYard 31 = .ok (.aload_n 0, 1) := by decide +kernel
theorem dX3_takesYard_32 : decode cX3_takesYard 32 = .ok (.getfield 14, 3) := by decide +kernel
theorem dX3_takesYard_35 : decode cX3_takesYard 35 = .ok (.ldc 176, 2) := by decide +kernel
theorem dX3_takesYard_37 : decode cX3_takesYard 37 = .ok (.aload_n 0, 1) := by decide +kernel
theorem dX3_takesYard_38 : decode cX3_takesYard 38 = .ok (.getfield 20, 3) := by decide +kernel
theorem dX3_takesYard_41 : decode cX3_takesYard 41 = .ok (.getfield 173, 3) := by decide +kernel
theorem dX3_takesYard_44 : decode cX3_takesYard 44 = .ok (.bipush 15, 2) := by decide +kernel
theorem dX3_takesYard_46 : decode cX3_takesYard 46 = .ok (.invokevirtual 82, 3) := by decide +kernel
theorem dX3_takesYard_49 : decode cX3_takesYard 49 = .ok (.ifCond .ne 5, 3) := by decide +kernel
theorem dX3_takesYard_52 : decode cX3_takesYard 52 = .ok (.iconst 0, 1) := by decide +kernel
theorem dX3_takesYard_53 : decode cX3_takesYard 53 = .ok (.ireturn, 1) := by decide +kernel
theorem dX3_takesYard_54 : decode cX3_takesYard 54 = .ok (.aload_n 0, 1) := by decide +kernel
theorem dX3_takesYard_55 : decode cX3_takesYard 55 = .ok (.getfield 20, 3) := by decide +kernel
theorem dX3_takesYard_58 : decode cX3_takesYard 58 = .ok (.aload_n 0, 1) := by decide +kernel
theorem dX3_takesYard_59 : decode cX3_takesYard 59 = .ok (.getfield 14, 3) := by decide +kernel
theorem dX3_takesYard_62 : decode cX3_takesYard 62 = .ok (.getfield 86, 3) := by decide +kernel
theorem dX3_takesYard_65 : decode cX3_takesYard 65 = .ok (.putfield 178, 3) := by decide +kernel
theorem dX3_takesYard_68 : decode cX3_takesYard 68 = .ok (.iconst 1, 1) := by decide +kernel
theorem dX3_takesYard_69 : decode cX3_takesYard 69 = .ok (.ireturn, 1) := by decide +kernel
theorem dX3_takesWind_0 : decode cX3_takesWind 0 = .ok (.aload_n 0, 1) := by decide +kernel
theorem dX3_takesWind_1 : decode cX3_takesWind 1 = .ok (.getfield 14, 3) := by decide +kernel
theorem dX3_takesWind_4 : decode cX3_takesWind 4 = .ok (.ldc 75, 2) := by decide +kernel
theorem dX3_takesWind_6 : decode cX3_takesWind 6 = .ok (.iconst 0, 1) := by decide +kernel
theorem dX3_takesWind_7 : decode cX3_takesWind 7 = .ok (.bipush 12, 2) := by decide +kernel
theorem dX3_takesWind_9 : decode cX3_takesWind 9 = .ok (.invokevirtual 82, 3) := by decide +kernel
theorem dX3_takesWind_12 : decode cX3_takesWind 12 = .ok (.ifCond .ne 5, 3) := by decide +kernel
theorem dX3_takesWind_15 : decode cX3_takesWind 15 = .ok (.iconst 0, 1) := by decide +kernel
theorem dX3_takesWind_16 : decode cX3_takesWind 16 = .ok (.ireturn, 1) := by decide +kernel
theorem dX3_takesWind_17 : decode cX3_takesWind 17 = .ok (.aload_n 0, 1) := by decide +kernel
theorem dX3_takesWind_18 : decode cX3_takesWind 18 = .ok (.getfield 14, 3) := by decide +kernel
theorem dX3_takesWind_21 : decode cX3_takesWind 21 = .ok (.getfield 86, 3) := by decide +kernel
theorem dX3_takesWind_24 : decode cX3_takesWind 24 = .ok (.istore_n 1, 1) := by decide +kernel
theorem dX3_takesWind_25 : decode cX3_takesWind 25 = .ok (.aload_n 0, 1) := by decide +kernel
theorem dX3_takesWind_26 : decode cX3_takesWind 26 = .ok (.getfield 14, 3) := by decide +kernel
theorem dX3_takesWind_29 : decode cX3_takesWind 29 = .ok (.ldc 180, 2) := by decide +kernel
theorem dX3_takesWind_31 : decode cX3_takesWind 31 = .ok (.invokevirtual 48, 3) := by decide +kernel
theorem dX3_takesWind_34 : decode cX3_takesWind 34 = .ok (.istore_n 2, 1) := by decide +kernel
theorem dX3_takesWind_35 : decode cX3_takesWind 35 = .ok (.aload_n 0, 1) := by decide +kernel
theorem dX3_takesWind_36 : decode cX3_takesWind 36 = .ok (.getfield 14, 3) := by decide +kernel
theorem dX3_takesWind_39 : decode cX3_takesWind 39 = .ok (.iload_n 2, 1) := by decide +kernel
theorem dX3_takesWind_40 : decode cX3_takesWind 40 = .ok (.ifCond .eq 8, 3) := by decide +kernel
theorem dX3_takesWind_43 : decode cX3_takesWind 43 = .ok (.ldc 180, 2) := by decide +kernel
theorem dX3_takesWind_45 : decode cX3_takesWind 45 = .ok (.goto 5, 3) := by decide +kernel
theorem dX3_takesWind_48 : decode cX3_takesWind 48 = .ok (.ldc 182, 2) := by decide +kernel
theorem dX3_takesWind_50 : decode cX3_takesWind 50 = .ok (.iconst 0, 1) := by decide +kernel
theorem dX3_takesWind_51 : decode cX3_takesWind 51 = .ok (.iconst 3, 1) := by decide +kernel
theorem dX3_takesWind_52 : decode cX3_takesWind 52 = .ok (.invokevirtual 82, 3) := by decide +kernel
theorem dX3_takesWind_55 : decode cX3_takesWind 55 = .ok (.ifCond .ne 5, 3) := by decide +kernel
theorem dX3_takesWind_58 : decode cX3_takesWind 58 = .ok (.iconst 0, 1) := by decide +kernel
theorem dX3_takesWind_59 : decode cX3_takesWind 59 = .ok (.ireturn, 1) := by decide +kernel
theorem dX3_takesWind_60 : decode cX3_takesWind 60 = .ok (.aload_n 0, 1) := by decide +kernel
theorem dX3_takesWind_61 : decode cX3_takesWind 61 = .ok (.getfield 20, 3) := by decide +kernel
theorem dX3_takesWind_64 : decode cX3_takesWind 64 = .ok (.getfield 184, 3) := by decide +kernel
theorem dX3_takesWind_67 : decode cX3_takesWind 67 = .ok (.iload_n 1, 1) := by decide +kernel
theorem dX3_takesWind_68 : decode cX3_takesWind 68 = .ok (.iload_n 2, 1) := by decide +kernel
theorem dX3_takesWind_69 : decode cX3_takesWind 69 = .ok (.ifCond .eq 14, 3) := by decide +kernel
theorem dX3_takesWind_72 : decode cX3_takesWind 72 = .ok (.aload_n 0, 1) := by decide +kernel
theorem dX3_takesWind_73 : decode cX3_takesWind 73 = .ok (.getfield 14, 3) := by decide +kernel
theorem dX3_takesWind_76 : decode cX3_takesWind 76 = .ok (.getfield 86, 3) := by decide +kernel
theorem dX3_takesWind_79 : decode cX3_takesWind 79 = .ok (.ineg, 1) := by decide +kernel
theorem dX3_takesWind_80 : decode cX3_takesWind 80 = .ok (.goto 10, 3) := by decide +kernel
theorem dX3_takesWind_83 : decode cX3_takesWind 83 = .ok (.aload_n 0, 1) := by decide +kernel
theorem dX3_takesWind_84 : decode cX3_takesWind 84 = .ok (.getfield 14, 3) := by decide +kernel
theorem dX3_takesWind_87 : decode cX3_takesWind 87 = .ok (.getfield 86, 3) := by decide +kernel
theorem dX3_takesWind_90 : decode cX3_takesWind 90 = .ok (.iastore, 1) := by decide +kernel
theorem dX3_takesWind_91 : decode cX3_takesWind 91 = .ok (.iconst 1, 1) := by decide +kernel
theorem dX3_takesWind_92 : decode cX3_takesWind 92 = .ok (.ireturn, 1) := by decide +kernel
theorem dX4_init_0 : decode cX4_init 0 = .ok (.aload_n 0, 1) := by decide +kernel
theorem dX4_init_1 : decode cX4_init 1 = .ok (.invokespecial 3, 3) := by decide +kernel
theorem dX4_init_4 : decode cX4_init 4 = .ok (.aload_n 0, 1) := by decide +kernel
theorem dX4_init_5 : decode cX4_init 5 = .ok (.iconst 0, 1) := by decide +kernel
theorem dX4_init_6 : decode cX4_init 6 = .ok (.putfield 9, 3) := by decide +kernel
theorem dX4_init_9 : decode cX4_init 9 = .ok (.aload_n 0, 1) := by decide +kernel
theorem dX4_init_10 : decode cX4_init 10 = .ok (.iconst 0, 1) := by decide +kernel
theorem dX4_init_11 : decode cX4_init 11 = .ok (.putfield 15, 3) := by decide +kernel
theorem dX4_init_14 : decode cX4_init 14 = .ok (.aload_n 0, 1) := by decide +kernel
theorem dX4_init_15 : decode cX4_init 15 = .ok (.sipush 128, 3) := by decide +kernel
theorem dX4_init_18 : decode cX4_init 18 = .ok (.newarray .int, 2) := by decide +kernel
theorem dX4_init_20 : decode cX4_init 20 = .ok (.putfield 18, 3) := by decide +kernel
theorem dX4_init_23 : decode cX4_init 23 = .ok (.aload_n 0, 1) := by decide +kernel
theorem dX4_init_24 : decode cX4_init 24 = .ok (.bipush 9, 2) := by decide +kernel
theorem dX4_init_26 : decode cX4_init 26 = .ok (.newarray .int, 2) := by decide +kernel
theorem dX4_init_28 : decode cX4_init 28 = .ok (.putfield 22, 3) := by decide +kernel
theorem dX4_init_31 : decode cX4_init 31 = .ok (.return_, 1) := by decide +kernel
theorem dX4_clear_0 : decode cX4_clear 0 = .ok (.aload_n 0, 1) := by decide +kernel
theorem dX4_clear_1 : decode cX4_clear 1 = .ok (.iconst 0, 1) := by decide +kernel
theorem dX4_clear_2 : decode cX4_clear 2 = .ok (.putfield 9, 3) := by decide +kernel
theorem dX4_clear_5 : decode cX4_clear 5 = .ok (.aload_n 0, 1) := by decide +kernel
theorem dX4_clear_6 : decode cX4_clear 6 = .ok (.iconst 0, 1) := by decide +kernel
theorem dX4_clear_7 : decode cX4_clear 7 = .ok (.putfield 15, 3) := by decide +kernel
theorem dX4_clear_10 : decode cX4_clear 10 = .ok (.aload_n 0, 1) := by decide +kernel
theorem dX4_clear_11 : decode cX4_clear 11 = .ok (.getfield 18, 3) := by decide +kernel
theorem dX4_clear_14 : decode cX4_clear 14 = .ok (.iconst 0, 1) := by decide +kernel
theorem dX4_clear_15 : decode cX4_clear 15 = .ok (.invokestatic 25, 3) := by decide +kernel
theorem dX4_clear_18 : decode cX4_clear 18 = .ok (.aload_n 0, 1) := by decide +kernel
theorem dX4_clear_19 : decode cX4_clear 19 = .ok (.getfield 22, 3) := by decide +kernel
theorem dX4_clear_22 : decode cX4_clear 22 = .ok (.iconst 0, 1) := by decide +kernel
theorem dX4_clear_23 : decode cX4_clear 23 = .ok (.invokestatic 25, 3) := by decide +kernel
theorem dX4_clear_26 : decode cX4_clear 26 = .ok (.return_, 1) := by decide +kernel
theorem dX4_land_0 : decode cX4_land 0 = .ok (.aload_n 0, 1) := by decide +kernel
theorem dX4_land_1 : decode cX4_land 1 = .ok (.getfield 18, 3) := by decide +kernel
theorem dX4_land_4 : decode cX4_land 4 = .ok (.iload_n 2, 1) := by decide +kernel
theorem dX4_land_5 : decode cX4_land 5 = .ok (.iconst 1, 1) := by decide +kernel
theorem dX4_land_6 : decode cX4_land 6 = .ok (.isub, 1) := by decide +kernel
theorem dX4_land_7 : decode cX4_land 7 = .ok (.bipush 16, 2) := by decide +kernel
theorem dX4_land_9 : decode cX4_land 9 = .ok (.imul, 1) := by decide +kernel
theorem dX4_land_10 : decode cX4_land 10 = .ok (.iload_n 1, 1) := by decide +kernel
theorem dX4_land_11 : decode cX4_land 11 = .ok (.iadd, 1) := by decide +kernel
theorem dX4_land_12 : decode cX4_land 12 = .ok (.dup2, 1) := by decide +kernel
theorem dX4_land_13 : decode cX4_land 13 = .ok (.iaload, 1) := by decide +kernel
theorem dX4_land_14 : decode cX4_land 14 = .ok (.iload_n 3, 1) := by decide +kernel
theorem dX4_land_15 : decode cX4_land 15 = .ok (.iadd, 1) := by decide +kernel
theorem dX4_land_16 : decode cX4_land 16 = .ok (.iastore, 1) := by decide +kernel
theorem dX4_land_17 : decode cX4_land 17 = .ok (.aload_n 0, 1) := by decide +kernel
theorem dX4_land_18 : decode cX4_land 18 = .ok (.getfield 22, 3) := by decide +kernel
theorem dX4_land_21 : decode cX4_land 21 = .ok (.iload_n 2, 1) := by decide +kernel
theorem dX4_land_22 : decode cX4_land 22 = .ok (.dup2, 1) := by decide +kernel
theorem dX4_land_23 : decode cX4_land 23 = .ok (.iaload, 1) := by decide +kernel
theorem dX4_land_24 : decode cX4_land 24 = .ok (.iload 4, 2) := by decide +kernel
theorem dX4_land_26 : decode cX4_land 26 = .ok (.ifCond .eq 7, 3) := by decide +kernel
theorem dX4_land_29 : decode cX4_land 29 = .ok (.iload_n 3, 1) := by decide +kernel
theorem dX4_land_30 : decode cX4_land 30 = .ok (.goto 4, 3) := by decide +kernel
theorem dX4_land_33 : decode cX4_land 33 = .ok (.iconst 0, 1) := by decide +kernel
theorem dX4_land_34 : decode cX4_land 34 = .ok (.iadd, 1) := by decide +kernel
theorem dX4_land_35 : decode cX4_land 35 = .ok (.iastore, 1) := by decide +kernel
theorem dX4_land_36 : decode cX4_land 36 = .ok (.return_, 1) := by decide +kernel
theorem dX4_landedIn_0 : decode cX4_landedIn 0 = .ok (.aload_n 0, 1) := by decide +kernel
theorem dX4_landedIn_1 : decode cX4_landedIn 1 = .ok (.getfield 18, 3) := by decide +kernel
theorem dX4_landedIn_4 : decode cX4_landedIn 4 = .ok (.iload_n 2, 1) := by decide +kernel
theorem dX4_landedIn_5 : decode cX4_landedIn 5 = .ok (.iconst 1, 1) := by decide +kernel
theorem dX4_landedIn_6 : decode cX4_landedIn 6 = .ok (.isub, 1) := by decide +kernel
theorem dX4_landedIn_7 : decode cX4_landedIn 7 = .ok (.bipush 16, 2) := by decide +kernel
theorem dX4_landedIn_9 : decode cX4_landedIn 9 = .ok (.imul, 1) := by decide +kernel
theorem dX4_landedIn_10 : decode cX4_landedIn 10 = .ok (.iload_n 1, 1) := by decide +kernel
theorem dX4_landedIn_11 : decode cX4_landedIn 11 = .ok (.iadd, 1) := by decide +kernel
theorem dX4_landedIn_12 : decode cX4_landedIn 12 = .ok (.iaload, 1) := by decide +kernel
theorem dX4_landedIn_13 : decode cX4_landedIn 13 = .ok (.ireturn, 1) := by decide +kernel
theorem dX4_goodUpTo_0 : decode cX4_goodUpTo 0 = .ok (.iconst 0, 1) := by decide +kernel
theorem dX4_goodUpTo_1 : decode cX4_goodUpTo 1 = .ok (.istore_n 2, 1) := by decide +kernel
theorem dX4_goodUpTo_2 : decode cX4_goodUpTo 2 = .ok (.iconst 1, 1) := by decide +kernel
theorem dX4_goodUpTo_3 : decode cX4_goodUpTo 3 = .ok (.istore_n 3, 1) := by decide +kernel
theorem dX4_goodUpTo_4 : decode cX4_goodUpTo 4 = .ok (.iload_n 3, 1) := by decide +kernel
theorem dX4_goodUpTo_5 : decode cX4_goodUpTo 5 = .ok (.iload_n 1, 1) := by decide +kernel
theorem dX4_goodUpTo_6 : decode cX4_goodUpTo 6 = .ok (.if_icmp .gt 24, 3) := by decide +kernel
theorem dX4_goodUpTo_9 : decode cX4_goodUpTo 9 = .ok (.iload_n 3, 1) := by decide +kernel
theorem dX4_goodUpTo_10 : decode cX4_goodUpTo 10 = .ok (.bipush 8, 2) := by decide +kernel
theorem dX4_goodUpTo_12 : decode cX4_goodUpTo 12 = .ok (.if_icmp .gt 18, 3) := by decide +kernel
theorem dX4_goodUpTo_15 : decode cX4_goodUpTo 15 = .ok (.iload_n 2, 1) := by decide +kernel
theorem dX4_goodUpTo_16 : decode cX4_goodUpTo 16 = .ok (.aload_n 0, 1) := by decide +kernel
theorem dX4_goodUpTo_17 : decode cX4_goodUpTo 17 = .ok (.getfield 22, 3) := by decide +kernel
theorem dX4_goodUpTo_20 : decode cX4_goodUpTo 20 = .ok (.iload_n 3, 1) := by decide +kernel
theorem dX4_goodUpTo_21 : decode cX4_goodUpTo 21 = .ok (.iaload, 1) := by decide +kernel
theorem dX4_goodUpTo_22 : decode cX4_goodUpTo 22 = .ok (.iadd, 1) := by decide +kernel
theorem dX4_goodUpTo_23 : decode cX4_goodUpTo 23 = .ok (.istore_n 2, 1) := by decide +kernel
theorem dX4_goodUpTo_24 : decode cX4_goodUpTo 24 = .ok (.iinc 3 1, 3) := by decide +kernel
theorem dX4_goodUpTo_27 : decode cX4_goodUpTo 27 = .ok (.goto (-23), 3) := by decide +kernel
theorem dX4_goodUpTo_30 : decode cX4_goodUpTo 30 = .ok (.iload_n 2, 1) := by decide +kernel
theorem dX4_goodUpTo_31 : decode cX4_goodUpTo 31 = .ok (.ireturn, 1) := by decide +kernel
theorem dX4_ahead_0 : decode cX4_ahead 0 = .ok (.iconst 0, 1) := by decide +kernel
theorem dX4_ahead_1 : decode cX4_ahead 1 = .ok (.istore_n 2, 1) := by decide +kernel
theorem dX4_ahead_2 : decode cX4_ahead 2 = .ok (.sipush 6561, 3) := by decide +kernel
theorem dX4_ahead_5 : decode cX4_ahead 5 = .ok (.istore_n 3, 1) := by decide +kernel
theorem dX4_ahead_6 : decode cX4_ahead 6 = .ok (.iconst 1, 1) := by decide +kernel
theorem dX4_ahead_7 : decode cX4_ahead 7 = .ok (.istore 4, 2) := by decide +kernel
theorem dX4_ahead_9 : decode cX4_ahead 9 = .ok (.iload 4, 2) := by decide +kernel
theorem dX4_ahead_11 : decode cX4_ahead 11 = .ok (.bipush 8, 2) := by decide +kernel
theorem dX4_ahead_13 : decode cX4_ahead 13 = .ok (.if_icmp .gt 31, 3) := by decide +kernel
theorem dX4_ahead_16 : decode cX4_ahead 16 = .ok (.iload_n 3, 1) := by decide +kernel
theorem dX4_ahead_17 : decode cX4_ahead 17 = .ok (.aload_n 1, 1) := by decide +kernel
theorem dX4_ahead_18 : decode cX4_ahead 18 = .ok (.getfield 22, 3) := by decide +kernel
theorem dX4_ahead_21 : decode cX4_ahead 21 = .ok (.iload 4, 2) := by decide +kernel
theorem dX4_ahead_23 : decode cX4_ahead 23 = .ok (.iaload, 1) := by decide +kernel
theorem dX4_ahead_24 : decode cX4_ahead 24 = .ok (.isub, 1) := by decide +kernel
theorem dX4_ahead_25 : decode cX4_ahead 25 = .ok (.istore_n 3, 1) := by decide +kernel
theorem dX4_ahead_26 : decode cX4_ahead 26 = .ok (.iload_n 2, 1) := by decide +kernel
theorem dX4_ahead_27 : decode cX4_ahead 27 = .ok (.aload_n 0, 1) := by decide +kernel
theorem dX4_ahead_28 : decode cX4_ahead 28 = .ok (.getfield 22, 3) := by decide +kernel
theorem dX4_ahead_31 : decode cX4_ahead 31 = .ok (.iload 4, 2) := by decide +kernel
theorem dX4_ahead_33 : decode cX4_ahead 33 = .ok (.iaload, 1) := by decide +kernel
theorem dX4_ahead_34 : decode cX4_ahead 34 = .ok (.iload_n 3, 1) := by decide +kernel
theorem dX4_ahead_35 : decode cX4_ahead 35 = .ok (.imul, 1) := by decide +kernel
theorem dX4_ahead_36 : decode cX4_ahead 36 = .ok (.iadd, 1) := by decide +kernel
theorem dX4_ahead_37 : decode cX4_ahead 37 = .ok (.istore_n 2, 1) := by decide +kernel
theorem dX4_ahead_38 : decode cX4_ahead 38 = .ok (.iinc 4 1, 3) := by decide +kernel
theorem dX4_ahead_41 : decode cX4_ahead 41 = .ok (.goto (-32), 3) := by decide +kernel
theorem dX4_ahead_44 : decode cX4_ahead 44 = .ok (.iload_n 2, 1) := by decide +kernel
theorem dX4_ahead_45 : decode cX4_ahead 45 = .ok (.ireturn, 1) := by decide +kernel
theorem dX4_together_0 : decode cX4_together 0 = .ok (.iconst 0, 1) := by decide +kernel
theorem dX4_together_1 : decode cX4_together 1 = .ok (.istore_n 2, 1) := by decide +kernel
theorem dX4_together_2 : decode cX4_together 2 = .ok (.iconst 1, 1) := by decide +kernel
theorem dX4_together_3 : decode cX4_together 3 = .ok (.istore_n 3, 1) := by decide +kernel
theorem dX4_together_4 : decode cX4_together 4 = .ok (.iload_n 3, 1) := by decide +kernel
theorem dX4_together_5 : decode cX4_together 5 = .ok (.bipush 8, 2) := by decide +kernel
theorem dX4_together_7 : decode cX4_together 7 = .ok (.if_icmp .gt 25, 3) := by decide +kernel
theorem dX4_together_10 : decode cX4_together 10 = .ok (.iload_n 2, 1) := by decide +kernel
theorem dX4_together_11 : decode cX4_together 11 = .ok (.aload_n 0, 1) := by decide +kernel
theorem dX4_together_12 : decode cX4_together 12 = .ok (.getfield 22, 3) := by decide +kernel
theorem dX4_together_15 : decode cX4_together 15 = .ok (.iload_n 3, 1) := by decide +kernel
theorem dX4_together_16 : decode cX4_together 16 = .ok (.iaload, 1) := by decide +kernel
theorem dX4_together_17 : decode cX4_together 17 = .ok (.aload_n 1, 1) := by decide +kernel
theorem dX4_together_18 : decode cX4_together 18 = .ok (.getfield 22, 3) := by decide +kernel
theorem dX4_together_21 : decode cX4_together 21 = .ok (.iload_n 3, 1) := by decide +kernel
theorem dX4_together_22 : decode cX4_together 22 = .ok (.iaload, 1) := by decide +kernel
theorem dX4_together_23 : decode cX4_together 23 = .ok (.imul, 1) := by decide +kernel
theorem dX4_together_24 : decode cX4_together 24 = .ok (.iadd, 1) := by decide +kernel
theorem dX4_together_25 : decode cX4_together 25 = .ok (.istore_n 2, 1) := by decide +kernel
theorem dX4_together_26 : decode cX4_together 26 = .ok (.iinc 3 1, 3) := by decide +kernel
theorem dX4_together_29 : decode cX4_together 29 = .ok (.goto (-25), 3) := by decide +kernel
theorem dX4_together_32 : decode cX4_together 32 = .ok (.iload_n 2, 1) := by decide +kernel
theorem dX4_together_33 : decode cX4_together 33 = .ok (.ireturn, 1) := by decide +kernel
theorem dX4_neither_0 : decode cX4_neither 0 = .ok (.sipush 6561, 3) := by decide +kernel
theorem dX4_neither_3 : decode cX4_neither 3 = .ok (.aload_n 0, 1) := by decide +kernel
theorem dX4_neither_4 : decode cX4_neither 4 = .ok (.bipush 8, 2) := by decide +kernel
theorem dX4_neither_6 : decode cX4_neither 6 = .ok (.invokevirtual 31, 3) := by decide +kernel
theorem dX4_neither_9 : decode cX4_neither 9 = .ok (.isub, 1) := by decide +kernel
theorem dX4_neither_10 : decode cX4_neither 10 = .ok (.sipush 6561, 3) := by decide +kernel
theorem dX4_neither_13 : decode cX4_neither 13 = .ok (.aload_n 1, 1) := by decide +kernel
theorem dX4_neither_14 : decode cX4_neither 14 = .ok (.bipush 8, 2) := by decide +kernel
theorem dX4_neither_16 : decode cX4_neither 16 = .ok (.invokevirtual 31, 3) := by decide +kernel
theorem dX4_neither_19 : decode cX4_neither 19 = .ok (.isub, 1) := by decide +kernel
theorem dX4_neither_20 : decode cX4_neither 20 = .ok (.imul, 1) := by decide +kernel
theorem dX4_neither_21 : decode cX4_neither 21 = .ok (.ireturn, 1) := by decide +kernel
theorem dX4_isAsGoodAs_0 : decode cX4_isAsGoodAs 0 = .ok (.iconst 1, 1) := by decide +kernel
theorem dX4_isAsGoodAs_1 : decode cX4_isAsGoodAs 1 = .ok (.istore_n 2, 1) := by decide +kernel
theorem dX4_isAsGoodAs_2 : decode cX4_isAsGoodAs 2 = .ok (.iload_n 2, 1) := by decide +kernel
theorem dX4_isAsGoodAs_3 : decode cX4_isAsGoodAs 3 = .ok (.bipush 8, 2) := by decide +kernel
theorem dX4_isAsGoodAs_5 : decode cX4_isAsGoodAs 5 = .ok (.if_icmp .gt 26, 3) := by decide +kernel
theorem dX4_isAsGoodAs_8 : decode cX4_isAsGoodAs 8 = .ok (.aload_n 0, 1) := by decide +kernel
theorem dX4_isAsGoodAs_9 : decode cX4_isAsGoodAs 9 = .ok (.getfield 22, 3) := by decide +kernel
theorem dX4_isAsGoodAs_12 : decode cX4_isAsGoodAs 12 = .ok (.iload_n 2, 1) := by decide +kernel
theorem dX4_isAsGoodAs_13 : decode cX4_isAsGoodAs 13 = .ok (.iaload, 1) := by decide +kernel
theorem dX4_isAsGoodAs_14 : decode cX4_isAsGoodAs 14 = .ok (.aload_n 1, 1) := by decide +kernel
theorem dX4_isAsGoodAs_15 : decode cX4_isAsGoodAs 15 = .ok (.getfield 22, 3) := by decide +kernel
theorem dX4_isAsGoodAs_18 : decode cX4_isAsGoodAs 18 = .ok (.iload_n 2, 1) := by decide +kernel
theorem dX4_isAsGoodAs_19 : decode cX4_isAsGoodAs 19 = .ok (.iaload, 1) := by decide +kernel
theorem dX4_isAsGoodAs_20 : decode cX4_isAsGoodAs 20 = .ok (.if_icmp .eq 5, 3) := by decide +kernel
theorem dX4_isAsGoodAs_23 : decode cX4_isAsGoodAs 23 = .ok (.iconst 0, 1) := by decide +kernel
theorem dX4_isAsGoodAs_24 : decode cX4_isAsGoodAs 24 = .ok (.ireturn, 1) := by decide +kernel
theorem dX4_isAsGoodAs_25 : decode cX4_isAsGoodAs 25 = .ok (.iinc 2 1, 3) := by decide +kernel
theorem dX4_isAsGoodAs_28 : decode cX4_isAsGoodAs 28 = .ok (.goto (-26), 3) := by decide +kernel
theorem dX4_isAsGoodAs_31 : decode cX4_isAsGoodAs 31 = .ok (.iconst 1, 1) := by decide +kernel
theorem dX4_isAsGoodAs_32 : decode cX4_isAsGoodAs 32 = .ok (.ireturn, 1) := by decide +kernel
theorem dX5_init_0 : decode cX5_init 0 = .ok (.aload_n 0, 1) := by decide +kernel
theorem dX5_init_1 : decode cX5_init 1 = .ok (.invokespecial 1, 3) := by decide +kernel
theorem dX5_init_4 : decode cX5_init 4 = .ok (.aload_n 0, 1) := by decide +kernel
theorem dX5_init_5 : decode cX5_init 5 = .ok (.iconst 0, 1) := by decide +kernel
theorem dX5_init_6 : decode cX5_init 6 = .ok (.putfield 7, 3) := by decide +kernel
theorem dX5_init_9 : decode cX5_init 9 = .ok (.aload_n 0, 1) := by decide +kernel
theorem dX5_init_10 : decode cX5_init 10 = .ok (.iconst 0, 1) := by decide +kernel
theorem dX5_init_11 : decode cX5_init 11 = .ok (.putfield 13, 3) := by decide +kernel
theorem dX5_init_14 : decode cX5_init 14 = .ok (.aload_n 0, 1) := by decide +kernel
theorem dX5_init_15 : decode cX5_init 15 = .ok (.iconst 0, 1) := by decide +kernel
theorem dX5_init_16 : decode cX5_init 16 = .ok (.putfield 16, 3) := by decide +kernel
theorem dX5_init_19 : decode cX5_init 19 = .ok (.aload_n 0, 1) := by decide +kernel
theorem dX5_init_20 : decode cX5_init 20 = .ok (.iconst 0, 1) := by decide +kernel
theorem dX5_init_21 : decode cX5_init 21 = .ok (.putfield 19, 3) := by decide +kernel
theorem dX5_init_24 : decode cX5_init 24 = .ok (.aload_n 0, 1) := by decide +kernel
theorem dX5_init_25 : decode cX5_init 25 = .ok (.iconst 0, 1) := by decide +kernel
theorem dX5_init_26 : decode cX5_init 26 = .ok (.putfield 23, 3) := by decide +kernel
theorem dX5_init_29 : decode cX5_init 29 = .ok (.aload_n 0, 1) := by decide +kernel
theorem dX5_init_30 : decode cX5_init 30 = .ok (.iconst 0, 1) := by decide +kernel
theorem dX5_init_31 : decode cX5_init 31 = .ok (.putfield 26, 3) := by decide +kernel
theorem dX5_init_34 : decode cX5_init 34 = .ok (.return_, 1) := by decide +kernel
theorem dX6_init_0 : decode cX6_init 0 = .ok (.aload_n 0, 1) := by decide +kernel
theorem dX6_init_1 : decode cX6_init 1 = .ok (.invokespecial 3, 3) := by decide +kernel
theorem dX6_init_4 : decode cX6_init 4 = .ok (.aload_n 0, 1) := by decide +kernel
theorem dX6_init_5 : decode cX6_init 5 = .ok (.iconst 0, 1) := by decide +kernel
theorem dX6_init_6 : decode cX6_init 6 = .ok (.putfield 9, 3) := by decide +kernel
theorem dX6_init_9 : decode cX6_init 9 = .ok (.aload_n 0, 1) := by decide +kernel
theorem dX6_init_10 : decode cX6_init 10 = .ok (.iconst 0, 1) := by decide +kernel
theorem dX6_init_11 : decode cX6_init 11 = .ok (.putfield 15, 3) := by decide +kernel
theorem dX6_init_14 : decode cX6_init 14 = .ok (.aload_n 0, 1) := by decide +kernel
theorem dX6_init_15 : decode cX6_init 15 = .ok (.sipush 360, 3) := by decide +kernel
theorem dX6_init_18 : decode cX6_init 18 = .ok (.newarray .int, 2) := by decide +kernel
theorem dX6_init_20 : decode cX6_init 20 = .ok (.putfield 18, 3) := by decide +kernel
theorem dX6_init_23 : decode cX6_init 23 = .ok (.return_, 1) := by decide +kernel
theorem dX6_copyFrom_0 : decode cX6_copyFrom 0 = .ok (.aload_n 0, 1) := by decide +kernel
theorem dX6_copyFrom_1 : decode cX6_copyFrom 1 = .ok (.aload_n 1, 1) := by decide +kernel
theorem dX6_copyFrom_2 : decode cX6_copyFrom 2 = .ok (.getfield 9, 3) := by decide +kernel
theorem dX6_copyFrom_5 : decode cX6_copyFrom 5 = .ok (.putfield 9, 3) := by decide +kernel
theorem dX6_copyFrom_8 : decode cX6_copyFrom 8 = .ok (.aload_n 0, 1) := by decide +kernel
theorem dX6_copyFrom_9 : decode cX6_copyFrom 9 = .ok (.aload_n 1, 1) := by decide +kernel
theorem dX6_copyFrom_10 : decode cX6_copyFrom 10 = .ok (.getfield 15, 3) := by decide +kernel
theorem dX6_copyFrom_13 : decode cX6_copyFrom 13 = .ok (.putfield 15, 3) := by decide +kernel
theorem dX6_copyFrom_16 : decode cX6_copyFrom 16 = .ok (.aload_n 1, 1) := by decide +kernel
theorem dX6_copyFrom_17 : decode cX6_copyFrom 17 = .ok (.getfield 18, 3) := by decide +kernel
theorem dX6_copyFrom_20 : decode cX6_copyFrom 20 = .ok (.iconst 0, 1) := by decide +kernel
theorem dX6_copyFrom_21 : decode cX6_copyFrom 21 = .ok (.aload_n 0, 1) := by decide +kernel
theorem dX6_copyFrom_22 : decode cX6_copyFrom 22 = .ok (.getfield 18, 3) := by decide +kernel
theorem dX6_copyFrom_25 : decode cX6_copyFrom 25 = .ok (.iconst 0, 1) := by decide +kernel
theorem dX6_copyFrom_26 : decode cX6_copyFrom 26 = .ok (.aload_n 0, 1) := by decide +kernel
theorem dX6_copyFrom_27 : decode cX6_copyFrom 27 = .ok (.getfield 18, 3) := by decide +kernel
theorem dX6_copyFrom_30 : decode cX6_copyFrom 30 = .ok (.arraylength, 1) := by decide +kernel
theorem dX6_copyFrom_31 : decode cX6_copyFrom 31 = .ok (.invokestatic 22, 3) := by decide +kernel
theorem dX6_copyFrom_34 : decode cX6_copyFrom 34 = .ok (.return_, 1) := by decide +kernel
theorem dX6_open_0 : decode cX6_open 0 = .ok (.aload_n 0, 1) := by decide +kernel
theorem dX6_open_1 : decode cX6_open 1 = .ok (.aload_n 0, 1) := by decide +kernel
theorem dX6_open_2 : decode cX6_open 2 = .ok (.getfield 15, 3) := by decide +kernel
theorem dX6_open_5 : decode cX6_open 5 = .ok (.iconst 1, 1) := by decide +kernel
theorem dX6_open_6 : decode cX6_open 6 = .ok (.iadd, 1) := by decide +kernel
theorem dX6_open_7 : decode cX6_open 7 = .ok (.bipush 60, 2) := by decide +kernel
theorem dX6_open_9 : decode cX6_open 9 = .ok (.irem, 1) := by decide +kernel
theorem dX6_open_10 : decode cX6_open 10 = .ok (.putfield 15, 3) := by decide +kernel
theorem dX6_open_13 : decode cX6_open 13 = .ok (.aload_n 0, 1) := by decide +kernel
theorem dX6_open_14 : decode cX6_open 14 = .ok (.bipush 60, 2) := by decide +kernel
theorem dX6_open_16 : decode cX6_open 16 = .ok (.aload_n 0, 1) := by decide +kernel
theorem dX6_open_17 : decode cX6_open 17 = .ok (.getfield 9, 3) := by decide +kernel
theorem dX6_open_20 : decode cX6_open 20 = .ok (.iconst 1, 1) := by decide +kernel
theorem dX6_open_21 : decode cX6_open 21 = .ok (.iadd, 1) := by decide +kernel
theorem dX6_open_22 : decode cX6_open 22 = .ok (.invokestatic 28, 3) := by decide +kernel
theorem dX6_open_25 : decode cX6_open 25 = .ok (.putfield 9, 3) := by decide +kernel
theorem dX6_open_28 : decode cX6_open 28 = .ok (.aload_n 0, 1) := by decide +kernel
theorem dX6_open_29 : decode cX6_open 29 = .ok (.getfield 18, 3) := by decide +kernel
theorem dX6_open_32 : decode cX6_open 32 = .ok (.aload_n 0, 1) := by decide +kernel
theorem dX6_open_33 : decode cX6_open 33 = .ok (.getfield 15, 3) := by decide +kernel
theorem dX6_open_36 : decode cX6_open 36 = .ok (.bipush 6, 2) := by decide +kernel
theorem dX6_open_38 : decode cX6_open 38 = .ok (.imul, 1) := by decide +kernel
theorem dX6_open_39 : decode cX6_open 39 = .ok (.iconst 0, 1) := by decide +kernel
theorem dX6_open_40 : decode cX6_open 40 = .ok (.iadd, 1) := by decide +kernel
theorem dX6_open_41 : decode cX6_open 41 = .ok (.iload_n 1, 1) := by decide +kernel
theorem dX6_open_42 : decode cX6_open 42 = .ok (.iastore, 1) := by decide +kernel
theorem dX6_open_43 : decode cX6_open 43 = .ok (.aload_n 0, 1) := by decide +kernel
theorem dX6_open_44 : decode cX6_open 44 = .ok (.getfield 18, 3) := by decide +kernel
theorem dX6_open_47 : decode cX6_open 47 = .ok (.aload_n 0, 1) := by decide +kernel
theorem dX6_open_48 : decode cX6_open 48 = .ok (.getfield 15, 3) := by decide +kernel
theorem dX6_open_51 : decode cX6_open 51 = .ok (.bipush 6, 2) := by decide +kernel
theorem dX6_open_53 : decode cX6_open 53 = .ok (.imul, 1) := by decide +kernel
theorem dX6_open_54 : decode cX6_open 54 = .ok (.iconst 1, 1) := by decide +kernel
theorem dX6_open_55 : decode cX6_open 55 = .ok (.iadd, 1) := by decide +kernel
theorem dX6_open_56 : decode cX6_open 56 = .ok (.iload_n 2, 1) := by decide +kernel
theorem dX6_open_57 : decode cX6_open 57 = .ok (.iastore, 1) := by decide +kernel
theorem dX6_open_58 : decode cX6_open 58 = .ok (.return_, 1) := by decide +kernel
theorem dX6_write_0 : decode cX6_write 0 = .ok (.aload_n 0, 1) := by decide +kernel
theorem dX6_write_1 : decode cX6_write 1 = .ok (.getfield 18, 3) := by decide +kernel
theorem dX6_write_4 : decode cX6_write 4 = .ok (.aload_n 0, 1) := by decide +kernel
theorem dX6_write_5 : decode cX6_write 5 = .ok (.getfield 15, 3) := by decide +kernel
theorem dX6_write_8 : decode cX6_write 8 = .ok (.bipush 6, 2) := by decide +kernel
theorem dX6_write_10 : decode cX6_write 10 = .ok (.imul, 1) := by decide +kernel
theorem dX6_write_11 : decode cX6_write 11 = .ok (.iconst 2, 1) := by decide +kernel
theorem dX6_write_12 : decode cX6_write 12 = .ok (.iadd, 1) := by decide +kernel
theorem dX6_write_13 : decode cX6_write 13 = .ok (.iload_n 1, 1) := by decide +kernel
theorem dX6_write_14 : decode cX6_write 14 = .ok (.iastore, 1) := by decide +kernel
theorem dX6_write_15 : decode cX6_write 15 = .ok (.aload_n 0, 1) := by decide +kernel
theorem dX6_write_16 : decode cX6_write 16 = .ok (.getfield 18, 3) := by decide +kernel
theorem dX6_write_19 : decode cX6_write 19 = .ok (.aload_n 0, 1) := by decide +kernel
theorem dX6_write_20 : decode cX6_write 20 = .ok (.getfield 15, 3) := by decide +kernel
theorem dX6_write_23 : decode cX6_write 23 = .ok (.bipush 6, 2) := by decide +kernel
theorem dX6_write_25 : decode cX6_write 25 = .ok (.imul, 1) := by decide +kernel
theorem dX6_write_26 : decode cX6_write 26 = .ok (.iconst 3, 1) := by decide +kernel
theorem dX6_write_27 : decode cX6_write 27 = .ok (.iadd, 1) := by decide +kernel
theorem dX6_write_28 : decode cX6_write 28 = .ok (.iload_n 2, 1) := by decide +kernel
theorem dX6_write_29 : decode cX6_write 29 = .ok (.iastore, 1) := by decide +kernel
theorem dX6_write_30 : decode cX6_write 30 = .ok (.aload_n 0, 1) := by decide +kernel
theorem dX6_write_31 : decode cX6_write 31 = .ok (.getfield 18, 3) := by decide +kernel
theorem dX6_write_34 : decode cX6_write 34 = .ok (.aload_n 0, 1) := by decide +kernel
theorem dX6_write_35 : decode cX6_write 35 = .ok (.getfield 15, 3) := by decide +kernel
theorem dX6_write_38 : decode cX6_write 38 = .ok (.bipush 6, 2) := by decide +kernel
theorem dX6_write_40 : decode cX6_write 40 = .ok (.imul, 1) := by decide +kernel
theorem dX6_write_41 : decode cX6_write 41 = .ok (.iconst 4, 1) := by decide +kernel
theorem dX6_write_42 : decode cX6_write 42 = .ok (.iadd, 1) := by decide +kernel
theorem dX6_write_43 : decode cX6_write 43 = .ok (.iload_n 3, 1) := by decide +kernel
theorem dX6_write_44 : decode cX6_write 44 = .ok (.iastore, 1) := by decide +kernel
theorem dX6_write_45 : decode cX6_write 45 = .ok (.aload_n 0, 1) := by decide +kernel
theorem dX6_write_46 : decode cX6_write 46 = .ok (.getfield 18, 3) := by decide +kernel
theorem dX6_write_49 : decode cX6_write 49 = .ok (.aload_n 0, 1) := by decide +kernel
theorem dX6_write_50 : decode cX6_write 50 = .ok (.getfield 15, 3) := by decide +kernel
theorem dX6_write_53 : decode cX6_write 53 = .ok (.bipush 6, 2) := by decide +kernel
theorem dX6_write_55 : decode cX6_write 55 = .ok (.imul, 1) := by decide +kernel
theorem dX6_write_56 : decode cX6_write 56 = .ok (.iconst 5, 1) := by decide +kernel
theorem dX6_write_57 : decode cX6_write 57 = .ok (.iadd, 1) := by decide +kernel
theorem dX6_write_58 : decode cX6_write 58 = .ok (.iload 4, 2) := by decide +kernel
theorem dX6_write_60 : decode cX6_write 60 = .ok (.iastore, 1) := by decide +kernel
theorem dX6_write_61 : decode cX6_write 61 = .ok (.return_, 1) := by decide +kernel
theorem dX6_told_0 : decode cX6_told 0 = .ok (.iload_n 1, 1) := by decide +kernel
theorem dX6_told_1 : decode cX6_told 1 = .ok (.ifCond .lt 11, 3) := by decide +kernel
theorem dX6_told_4 : decode cX6_told 4 = .ok (.iload_n 1, 1) := by decide +kernel
theorem dX6_told_5 : decode cX6_told 5 = .ok (.aload_n 0, 1) := by decide +kernel
theorem dX6_told_6 : decode cX6_told 6 = .ok (.getfield 9, 3) := by decide +kernel
theorem dX6_told_9 : decode cX6_told 9 = .ok (.if_icmp .lt 5, 3) := by decide +kernel
theorem dX6_told_12 : decode cX6_told 12 = .ok (.iconst (-1), 1) := by decide +kernel
theorem dX6_told_13 : decode cX6_told 13 = .ok (.ireturn, 1) := by decide +kernel
theorem dX6_told_14 : decode cX6_told 14 = .ok (.aload_n 0, 1) := by decide +kernel
theorem dX6_told_15 : decode cX6_told 15 = .ok (.getfield 18, 3) := by decide +kernel
theorem dX6_told_18 : decode cX6_told 18 = .ok (.aload_n 0, 1) := by decide +kernel
theorem dX6_told_19 : decode cX6_told 19 = .ok (.getfield 15, 3) := by decide +kernel
theorem dX6_told_22 : decode cX6_told 22 = .ok (.bipush 60, 2) := by decide +kernel
theorem dX6_told_24 : decode cX6_told 24 = .ok (.iadd, 1) := by decide +kernel
theorem dX6_told_25 : decode cX6_told 25 = .ok (.iload_n 1, 1) := by decide +kernel
theorem dX6_told_26 : decode cX6_told 26 = .ok (.isub, 1) := by decide +kernel
theorem dX6_told_27 : decode cX6_told 27 = .ok (.bipush 60, 2) := by decide +kernel
theorem dX6_told_29 : decode cX6_told 29 = .ok (.irem, 1) := by decide +kernel
theorem dX6_told_30 : decode cX6_told 30 = .ok (.bipush 6, 2) := by decide +kernel
theorem dX6_told_32 : decode cX6_told 32 = .ok (.imul, 1) := by decide +kernel
theorem dX6_told_33 : decode cX6_told 33 = .ok (.iload_n 2, 1) := by decide +kernel
theorem dX6_told_34 : decode cX6_told 34 = .ok (.iadd, 1) := by decide +kernel
theorem dX6_told_35 : decode cX6_told 35 = .ok (.iaload, 1) := by decide +kernel
theorem dX6_told_36 : decode cX6_told 36 = .ok (.ireturn, 1) := by decide +kernel
theorem dX7_init_0 : decode cX7_init 0 = .ok (.aload_n 0, 1) := by decide +kernel
theorem dX7_init_1 : decode cX7_init 1 = .ok (.invokespecial 3, 3) := by decide +kernel
theorem dX7_init_4 : decode cX7_init 4 = .ok (.aload_n 0, 1) := by decide +kernel
theorem dX7_init_5 : decode cX7_init 5 = .ok (.iconst (-1), 1) := by decide +kernel
theorem dX7_init_6 : decode cX7_init 6 = .ok (.putfield 9, 3) := by decide +kernel
theorem dX7_init_9 : decode cX7_init 9 = .ok (.aload_n 0, 1) := by decide +kernel
theorem dX7_init_10 : decode cX7_init 10 = .ok (.iconst 0, 1) := by decide +kernel
theorem dX7_init_11 : decode cX7_init 11 = .ok (.putfield 15, 3) := by decide +kernel
theorem dX7_init_14 : decode cX7_init 14 = .ok (.aload_n 0, 1) := by decide +kernel
theorem dX7_init_15 : decode cX7_init 15 = .ok (.iconst 0, 1) := by decide +kernel
theorem dX7_init_16 : decode cX7_init 16 = .ok (.putfield 18, 3) := by decide +kernel
theorem dX7_init_19 : decode cX7_init 19 = .ok (.aload_n 0, 1) := by decide +kernel
theorem dX7_init_20 : decode cX7_init 20 = .ok (.iconst 0, 1) := by decide +kernel
theorem dX7_init_21 : decode cX7_init 21 = .ok (.putfield 21, 3) := by decide +kernel
theorem dX7_init_24 : decode cX7_init 24 = .ok (.aload_n 0, 1) := by decide +kernel
theorem dX7_init_25 : decode cX7_init 25 = .ok (.bipush 12, 2) := by decide +kernel
theorem dX7_init_27 : decode cX7_init 27 = .ok (.newarray .int, 2) := by decide +kernel
theorem dX7_init_29 : decode cX7_init 29 = .ok (.putfield 24, 3) := by decide +kernel
theorem dX7_init_32 : decode cX7_init 32 = .ok (.aload_n 0, 1) := by decide +kernel
theorem dX7_init_33 : decode cX7_init 33 = .ok (.bipush 12, 2) := by decide +kernel
theorem dX7_init_35 : decode cX7_init 35 = .ok (.newarray .int, 2) := by decide +kernel
theorem dX7_init_37 : decode cX7_init 37 = .ok (.putfield 28, 3) := by decide +kernel
theorem dX7_init_40 : decode cX7_init 40 = .ok (.aload_n 0, 1) := by decide +kernel
theorem dX7_init_41 : decode cX7_init 41 = .ok (.bipush 12, 2) := by decide +kernel
theorem dX7_init_43 : decode cX7_init 43 = .ok (.newarray .int, 2) := by decide +kernel
theorem dX7_init_45 : decode cX7_init 45 = .ok (.putfield 31, 3) := by decide +kernel
theorem dX7_init_48 : decode cX7_init 48 = .ok (.aload_n 0, 1) := by decide +kernel
theorem dX7_init_49 : decode cX7_init 49 = .ok (.bipush 12, 2) := by decide +kernel
theorem dX7_init_51 : decode cX7_init 51 = .ok (.newarray .int, 2) := by decide +kernel
theorem dX7_init_53 : decode cX7_init 53 = .ok (.putfield 34, 3) := by decide +kernel
theorem dX7_init_56 : decode cX7_init 56 = .ok (.aload_n 0, 1) := by decide +kernel
theorem dX7_init_57 : decode cX7_init 57 = .ok (.sipush 400, 3) := by decide +kernel
theorem dX7_init_60 : decode cX7_init 60 = .ok (.newarray .int, 2) := by decide +kernel
theorem dX7_init_62 : decode cX7_init 62 = .ok (.putfield 37, 3) := by decide +kernel
theorem dX7_init_65 : decode cX7_init 65 = .ok (.aload_n 0, 1) := by decide +kernel
theorem dX7_init_66 : decode cX7_init 66 = .ok (.bipush 8, 2) := by decide +kernel
theorem dX7_init_68 : decode cX7_init 68 = .ok (.newarray .int, 2) := by decide +kernel
theorem dX7_init_70 : decode cX7_init 70 = .ok (.putfield 40, 3) := by decide +kernel
theorem dX7_init_73 : decode cX7_init 73 = .ok (.aload_n 0, 1) := by decide +kernel
theorem dX7_init_74 : decode cX7_init 74 = .ok (.bipush 32, 2) := by decide +kernel
theorem dX7_init_76 : decode cX7_init 76 = .ok (.newarray .int, 2) := by decide +kernel
theorem dX7_init_78 : decode cX7_init 78 = .ok (.putfield 43, 3) := by decide +kernel
theorem dX7_init_81 : decode cX7_init 81 = .ok (.return_, 1) := by decide +kernel
theorem dX7_copyFrom_0 : decode cX7_copyFrom 0 = .ok (.aload_n 0, 1) := by decide +kernel
theorem dX7_copyFrom_1 : decode cX7_copyFrom 1 = .ok (.aload_n 1, 1) := by decide +kernel
theorem dX7_copyFrom_2 : decode cX7_copyFrom 2 = .ok (.getfield 9, 3) := by decide +kernel
theorem dX7_copyFrom_5 : decode cX7_copyFrom 5 = .ok (.putfield 9, 3) := by decide +kernel
theorem dX7_copyFrom_8 : decode cX7_copyFrom 8 = .ok (.aload_n 0, 1) := by decide +kernel
theorem dX7_copyFrom_9 : decode cX7_copyFrom 9 = .ok (.aload_n 1, 1) := by decide +kernel
theorem dX7_copyFrom_10 : decode cX7_copyFrom 10 = .ok (.getfield 15, 3) := by decide +kernel
theorem dX7_copyFrom_13 : decode cX7_copyFrom 13 = .ok (.putfield 15, 3) := by decide +kernel
theorem dX7_copyFrom_16 : decode cX7_copyFrom 16 = .ok (.aload_n 1, 1) := by decide +kernel
theorem dX7_copyFrom_17 : decode cX7_copyFrom 17 = .ok (.getfield 24, 3) := by decide +kernel
theorem dX7_copyFrom_20 : decode cX7_copyFrom 20 = .ok (.iconst 0, 1) := by decide +kernel
theorem dX7_copyFrom_21 : decode cX7_copyFrom 21 = .ok (.aload_n 0, 1) := by decide +kernel
theorem dX7_copyFrom_22 : decode cX7_copyFrom 22 = .ok (.getfield 24, 3) := by decide +kernel
theorem dX7_copyFrom_25 : decode cX7_copyFrom 25 = .ok (.iconst 0, 1) := by decide +kernel
theorem dX7_copyFrom_26 : decode cX7_copyFrom 26 = .ok (.bipush 12, 2) := by decide +kernel
theorem dX7_copyFrom_28 : decode cX7_copyFrom 28 = .ok (.invokestatic 46, 3) := by decide +kernel
theorem dX7_copyFrom_31 : decode cX7_copyFrom 31 = .ok (.aload_n 1, 1) := by decide +kernel
theorem dX7_copyFrom_32 : decode cX7_copyFrom 32 = .ok (.getfield 28, 3) := by decide +kernel
theorem dX7_copyFrom_35 : decode cX7_copyFrom 35 = .ok (.iconst 0, 1) := by decide +kernel
theorem dX7_copyFrom_36 : decode cX7_copyFrom 36 = .ok (.aload_n 0, 1) := by decide +kernel
theorem dX7_copyFrom_37 : decode cX7_copyFrom 37 = .ok (.getfield 28, 3) := by decide +kernel
theorem dX7_copyFrom_40 : decode cX7_copyFrom 40 = .ok (.iconst 0, 1) := by decide +kernel
theorem dX7_copyFrom_41 : decode cX7_copyFrom 41 = .ok (.bipush 12, 2) := by decide +kernel
theorem dX7_copyFrom_43 : decode cX7_copyFrom 43 = .ok (.invokestatic 46, 3) := by decide +kernel
theorem dX7_copyFrom_46 : decode cX7_copyFrom 46 = .ok (.aload_n 1, 1) := by decide +kernel
theorem dX7_copyFrom_47 : decode cX7_copyFrom 47 = .ok (.getfield 31, 3) := by decide +kernel
theorem dX7_copyFrom_50 : decode cX7_copyFrom 50 = .ok (.iconst 0, 1) := by decide +kernel
theorem dX7_copyFrom_51 : decode cX7_copyFrom 51 = .ok (.aload_n 0, 1) := by decide +kernel
theorem dX7_copyFrom_52 : decode cX7_copyFrom 52 = .ok (.getfield 31, 3) := by decide +kernel
theorem dX7_copyFrom_55 : decode cX7_copyFrom 55 = .ok (.iconst 0, 1) := by decide +kernel
theorem dX7_copyFrom_56 : decode cX7_copyFrom 56 = .ok (.bipush 12, 2) := by decide +kernel
theorem dX7_copyFrom_58 : decode cX7_copyFrom 58 = .ok (.invokestatic 46, 3) := by decide +kernel
theorem dX7_copyFrom_61 : decode cX7_copyFrom 61 = .ok (.aload_n 1, 1) := by decide +kernel
theorem dX7_copyFrom_62 : decode cX7_copyFrom 62 = .ok (.getfield 34, 3) := by decide +kernel
theorem dX7_copyFrom_65 : decode cX7_copyFrom 65 = .ok (.iconst 0, 1) := by decide +kernel
theorem dX7_copyFrom_66 : decode cX7_copyFrom 66 = .ok (.aload_n 0, 1) := by decide +kernel
theorem dX7_copyFrom_67 : decode cX7_copyFrom 67 = .ok (.getfield 34, 3) := by decide +kernel
theorem dX7_copyFrom_70 : decode cX7_copyFrom 70 = .ok (.iconst 0, 1) := by decide +kernel
theorem dX7_copyFrom_71 : decode cX7_copyFrom 71 = .ok (.bipush 12, 2) := by decide +kernel
theorem dX7_copyFrom_73 : decode cX7_copyFrom 73 = .ok (.invokestatic 46, 3) := by decide +kernel
theorem dX7_copyFrom_76 : decode cX7_copyFrom 76 = .ok (.aload_n 1, 1) := by decide +kernel
theorem dX7_copyFrom_77 : decode cX7_copyFrom 77 = .ok (.getfield 37, 3) := by decide +kernel
theorem dX7_copyFrom_80 : decode cX7_copyFrom 80 = .ok (.iconst 0, 1) := by decide +kernel
theorem dX7_copyFrom_81 : decode cX7_copyFrom 81 = .ok (.aload_n 0, 1) := by decide +kernel
theorem dX7_copyFrom_82 : decode cX7_copyFrom 82 = .ok (.getfield 37, 3) := by decide +kernel
theorem dX7_copyFrom_85 : decode cX7_copyFrom 85 = .ok (.iconst 0, 1) := by decide +kernel
theorem dX7_copyFrom_86 : decode cX7_copyFrom 86 = .ok (.aload_n 0, 1) := by decide +kernel
theorem dX7_copyFrom_87 : decode cX7_copyFrom 87 = .ok (.getfield 15, 3) := by decide +kernel
theorem dX7_copyFrom_90 : decode cX7_copyFrom 90 = .ok (.invokestatic 46, 3) := by decide +kernel
theorem dX7_copyFrom_93 : decode cX7_copyFrom 93 = .ok (.return_, 1) := by decide +kernel
theorem dX7_clear_0 : decode cX7_clear 0 = .ok (.aload_n 0, 1) := by decide +kernel
theorem dX7_clear_1 : decode cX7_clear 1 = .ok (.iconst 0, 1) := by decide +kernel
theorem dX7_clear_2 : decode cX7_clear 2 = .ok (.putfield 9, 3) := by decide +kernel
theorem dX7_clear_5 : decode cX7_clear 5 = .ok (.aload_n 0, 1) := by decide +kernel
theorem dX7_clear_6 : decode cX7_clear 6 = .ok (.iconst 0, 1) := by decide +kernel
theorem dX7_clear_7 : decode cX7_clear 7 = .ok (.putfield 15, 3) := by decide +kernel
theorem dX7_clear_10 : decode cX7_clear 10 = .ok (.return_, 1) := by decide +kernel
theorem dX7_openLine_0 : decode cX7_openLine 0 = .ok (.aload_n 0, 1) := by decide +kernel
theorem dX7_openLine_1 : decode cX7_openLine 1 = .ok (.getfield 9, 3) := by decide +kernel
theorem dX7_openLine_4 : decode cX7_openLine 4 = .ok (.bipush 12, 2) := by decide +kernel
theorem dX7_openLine_6 : decode cX7_openLine 6 = .ok (.if_icmp .ge 36, 3) := by decide +kernel
theorem dX7_openLine_9 : decode cX7_openLine 9 = .ok (.aload_n 0, 1) := by decide +kernel
theorem dX7_openLine_10 : decode cX7_openLine 10 = .ok (.getfield 24, 3) := by decide +kernel
theorem dX7_openLine_13 : decode cX7_openLine 13 = .ok (.aload_n 0, 1) := by decide +kernel
theorem dX7_openLine_14 : decode cX7_openLine 14 = .ok (.getfield 9, 3) := by decide +kernel
theorem dX7_openLine_17 : decode cX7_openLine 17 = .ok (.iload_n 1, 1) := by decide +kernel
theorem dX7_openLine_18 : decode cX7_openLine 18 = .ok (.iastore, 1) := by decide +kernel
theorem dX7_openLine_19 : decode cX7_openLine 19 = .ok (.aload_n 0, 1) := by decide +kernel
theorem dX7_openLine_20 : decode cX7_openLine 20 = .ok (.getfield 28, 3) := by decide +kernel
theorem dX7_openLine_23 : decode cX7_openLine 23 = .ok (.aload_n 0, 1) := by decide +kernel
theorem dX7_openLine_24 : decode cX7_openLine 24 = .ok (.getfield 9, 3) := by decide +kernel
theorem dX7_openLine_27 : decode cX7_openLine 27 = .ok (.iload_n 2, 1) := by decide +kernel
theorem dX7_openLine_28 : decode cX7_openLine 28 = .ok (.iastore, 1) := by decide +kernel
theorem dX7_openLine_29 : decode cX7_openLine 29 = .ok (.aload_n 0, 1) := by decide +kernel
theorem dX7_openLine_30 : decode cX7_openLine 30 = .ok (.getfield 31, 3) := by decide +kernel
theorem dX7_openLine_33 : decode cX7_openLine 33 = .ok (.aload_n 0, 1) := by decide +kernel
theorem dX7_openLine_34 : decode cX7_openLine 34 = .ok (.getfield 9, 3) := by decide +kernel
theorem dX7_openLine_37 : decode cX7_openLine 37 = .ok (.aload_n 0, 1) := by decide +kernel
theorem dX7_openLine_38 : decode cX7_openLine 38 = .ok (.getfield 15, 3) := by decide +kernel
theorem dX7_openLine_41 : decode cX7_openLine 41 = .ok (.iastore, 1) := by decide +kernel
theorem dX7_openLine_42 : decode cX7_openLine 42 = .ok (.return_, 1) := by decide +kernel
theorem dX7_closeLine_0 : decode cX7_closeLine 0 = .ok (.aload_n 0, 1) := by decide +kernel
theorem dX7_closeLine_1 : decode cX7_closeLine 1 = .ok (.getfield 9, 3) := by decide +kernel
theorem dX7_closeLine_4 : decode cX7_closeLine 4 = .ok (.bipush 12, 2) := by decide +kernel
theorem dX7_closeLine_6 : decode cX7_closeLine 6 = .ok (.if_icmp .ge 26, 3) := by decide +kernel
theorem dX7_closeLine_9 : decode cX7_closeLine 9 = .ok (.aload_n 0, 1) := by decide +kernel
theorem dX7_closeLine_10 : decode cX7_closeLine 10 = .ok (.getfield 34, 3) := by decide +kernel
theorem dX7_closeLine_13 : decode cX7_closeLine 13 = .ok (.aload_n 0, 1) := by decide +kernel
theorem dX7_closeLine_14 : decode cX7_closeLine 14 = .ok (.getfield 9, 3) := by decide +kernel
theorem dX7_closeLine_17 : decode cX7_closeLine 17 = .ok (.aload_n 0, 1) := by decide +kernel
theorem dX7_closeLine_18 : decode cX7_closeLine 18 = .ok (.getfield 15, 3) := by decide +kernel
theorem dX7_closeLine_21 : decode cX7_closeLine 21 = .ok (.iastore, 1) := by decide +kernel
theorem dX7_closeLine_22 : decode cX7_closeLine 22 = .ok (.aload_n 0, 1) := by decide +kernel
theorem dX7_closeLine_23 : decode cX7_closeLine 23 = .ok (.dup, 1) := by decide +kernel
theorem dX7_closeLine_24 : decode cX7_closeLine 24 = .ok (.getfield 9, 3) := by decide +kernel
theorem dX7_closeLine_27 : decode cX7_closeLine 27 = .ok (.iconst 1, 1) := by decide +kernel
theorem dX7_closeLine_28 : decode cX7_closeLine 28 = .ok (.iadd, 1) := by decide +kernel
theorem dX7_closeLine_29 : decode cX7_closeLine 29 = .ok (.putfield 9, 3) := by decide +kernel
theorem dX7_closeLine_32 : decode cX7_closeLine 32 = .ok (.return_, 1) := by decide +kernel
theorem dX7_put_0 : decode cX7_put 0 = .ok (.aload_n 0, 1) := by decide +kernel
theorem dX7_put_1 : decode cX7_put 1 = .ok (.getfield 15, 3) := by decide +kernel
theorem dX7_put_4 : decode cX7_put 4 = .ok (.sipush 400, 3) := by decide +kernel
theorem dX7_put_7 : decode cX7_put 7 = .ok (.if_icmp .ge 23, 3) := by decide +kernel
theorem dX7_put_10 : decode cX7_put 10 = .ok (.aload_n 0, 1) := by decide +kernel
theorem dX7_put_11 : decode cX7_put 11 = .ok (.getfield 37, 3) := by decide +kernel
theorem dX7_put_14 : decode cX7_put 14 = .ok (.aload_n 0, 1) := by decide +kernel
theorem dX7_put_15 : decode cX7_put 15 = .ok (.getfield 15, 3) := by decide +kernel
theorem dX7_put_18 : decode cX7_put 18 = .ok (.iload_n 1, 1) := by decide +kernel
theorem dX7_put_19 : decode cX7_put 19 = .ok (.iastore, 1) := by decide +kernel
theorem dX7_put_20 : decode cX7_put 20 = .ok (.aload_n 0, 1) := by decide +kernel
theorem dX7_put_21 : decode cX7_put 21 = .ok (.dup, 1) := by decide +kernel
theorem dX7_put_22 : decode cX7_put 22 = .ok (.getfield 15, 3) := by decide +kernel
theorem dX7_put_25 : decode cX7_put 25 = .ok (.iconst 1, 1) := by decide +kernel
theorem dX7_put_26 : decode cX7_put 26 = .ok (.iadd, 1) := by decide +kernel
theorem dX7_put_27 : decode cX7_put 27 = .ok (.putfield 15, 3) := by decide +kernel
theorem dX7_put_30 : decode cX7_put 30 = .ok (.return_, 1) := by decide +kernel
theorem dX7_putFact_0 : decode cX7_putFact 0 = .ok (.aload_n 0, 1) := by decide +kernel
theorem dX7_putFact_1 : decode cX7_putFact 1 = .ok (.iconst (-1), 1) := by decide +kernel
theorem dX7_putFact_2 : decode cX7_putFact 2 = .ok (.iload_n 1, 1) := by decide +kernel
theorem dX7_putFact_3 : decode cX7_putFact 3 = .ok (.isub, 1) := by decide +kernel
theorem dX7_putFact_4 : decode cX7_putFact 4 = .ok (.invokevirtual 52, 3) := by decide +kernel
theorem dX7_putFact_7 : decode cX7_putFact 7 = .ok (.return_, 1) := by decide +kernel
theorem dX7_weigh_0 : decode cX7_weigh 0 = .ok (.aload_n 0, 1) := by decide +kernel
theorem dX7_weigh_1 : decode cX7_weigh 1 = .ok (.iconst 0, 1) := by decide +kernel
theorem dX7_weigh_2 : decode cX7_weigh 2 = .ok (.putfield 18, 3) := by decide +kernel
theorem dX7_weigh_5 : decode cX7_weigh 5 = .ok (.aload_n 0, 1) := by decide +kernel
theorem dX7_weigh_6 : decode cX7_weigh 6 = .ok (.iconst 0, 1) := by decide +kernel
theorem dX7_weigh_7 : decode cX7_weigh 7 = .ok (.putfield 21, 3) := by decide +kernel
theorem dX7_weigh_10 : decode cX7_weigh 10 = .ok (.iconst 0, 1) := by decide +kernel
theorem dX7_weigh_11 : decode cX7_weigh 11 = .ok (.istore_n 1, 1) := by decide +kernel
theorem dX7_weigh_12 : decode cX7_weigh 12 = .ok (.iload_n 1, 1) := by decide +kernel
theorem dX7_weigh_13 : decode cX7_weigh 13 = .ok (.aload_n 0, 1) := by decide +kernel
theorem dX7_weigh_14 : decode cX7_weigh 14 = .ok (.getfield 9, 3) := by decide +kernel
theorem dX7_weigh_17 : decode cX7_weigh 17 = .ok (.if_icmp .ge 126, 3) := by decide +kernel
theorem dX7_weigh_20 : decode cX7_weigh 20 = .ok (.iload_n 1, 1) := by decide +kernel
theorem dX7_weigh_21 : decode cX7_weigh 21 = .ok (.bipush 12, 2) := by decide +kernel
theorem dX7_weigh_23 : decode cX7_weigh 23 = .ok (.if_icmp .ge 120, 3) := by decide +kernel
theorem dX7_weigh_26 : decode cX7_weigh 26 = .ok (.aload_n 0, 1) := by decide +kernel
theorem dX7_weigh_27 : decode cX7_weigh 27 = .ok (.iload_n 1, 1) := by decide +kernel
theorem dX7_weigh_28 : decode cX7_weigh 28 = .ok (.invokevirtual 56, 3) := by decide +kernel
theorem dX7_weigh_31 : decode cX7_weigh 31 = .ok (.ifCond .ne 6, 3) := by decide +kernel
theorem dX7_weigh_34 : decode cX7_weigh 34 = .ok (.goto 103, 3) := by decide +kernel
theorem dX7_weigh_37 : decode cX7_weigh 37 = .ok (.aload_n 0, 1) := by decide +kernel
theorem dX7_weigh_38 : decode cX7_weigh 38 = .ok (.getfield 24, 3) := by decide +kernel
theorem dX7_weigh_41 : decode cX7_weigh 41 = .ok (.iload_n 1, 1) := by decide +kernel
theorem dX7_weigh_42 : decode cX7_weigh 42 = .ok (.iaload, 1) := by decide +kernel
theorem dX7_weigh_43 : decode cX7_weigh 43 = .ok (.tableswitch 79 0 2 #[25, 43, 61], 25) := by decide +kernel
theorem dX7_weigh_68 : decode cX7_weigh 68 = .ok (.aload_n 0, 1) := by decide +kernel
theorem dX7_weigh_69 : decode cX7_weigh 69 = .ok (.dup, 1) := by decide +kernel
theorem dX7_weigh_70 : decode cX7_weigh 70 = .ok (.getfield 18, 3) := by decide +kernel
theorem dX7_weigh_73 : decode cX7_weigh 73 = .ok (.aload_n 0, 1) := by decide +kernel
theorem dX7_weigh_74 : decode cX7_weigh 74 = .ok (.getfield 28, 3) := by decide +kernel
theorem dX7_weigh_77 : decode cX7_weigh 77 = .ok (.iload_n 1, 1) := by decide +kernel
theorem dX7_weigh_78 : decode cX7_weigh 78 = .ok (.iaload, 1) := by decide +kernel
theorem dX7_weigh_79 : decode cX7_weigh 79 = .ok (.iadd, 1) := by decide +kernel
theorem dX7_weigh_80 : decode cX7_weigh 80 = .ok (.putfield 18, 3) := by decide +kernel
theorem dX7_weigh_83 : decode cX7_weigh 83 = .ok (.goto 54, 3) := by decide +kernel
theorem dX7_weigh_86 : decode cX7_weigh 86 = .ok (.aload_n 0, 1) := by decide +kernel
theorem dX7_weigh_87 : decode cX7_weigh 87 = .ok (.dup, 1) := by decide +kernel
theorem dX7_weigh_88 : decode cX7_weigh 88 = .ok (.getfield 18, 3) := by decide +kernel
theorem dX7_weigh_91 : decode cX7_weigh 91 = .ok (.aload_n 0, 1) := by decide +kernel
theorem dX7_weigh_92 : decode cX7_weigh 92 = .ok (.getfield 28, 3) := by decide +kernel
theorem dX7_weigh_95 : decode cX7_weigh 95 = .ok (.iload_n 1, 1) := by decide +kernel
theorem dX7_weigh_96 : decode cX7_weigh 96 = .ok (.iaload, 1) := by decide +kernel
theorem dX7_weigh_97 : decode cX7_weigh 97 = .ok (.isub, 1) := by decide +kernel
theorem dX7_weigh_98 : decode cX7_weigh 98 = .ok (.putfield 18, 3) := by decide +kernel
theorem dX7_weigh_101 : decode cX7_weigh 101 = .ok (.goto 36, 3) := by decide +kernel
theorem dX7_weigh_104 : decode cX7_weigh 104 = .ok (.aload_n 0, 1) := by decide +kernel
theorem dX7_weigh_105 : decode cX7_weigh 105 = .ok (.dup, 1) := by decide +kernel
theorem dX7_weigh_106 : decode cX7_weigh 106 = .ok (.getfield 21, 3) := by decide +kernel
theorem dX7_weigh_109 : decode cX7_weigh 109 = .ok (.aload_n 0, 1) := by decide +kernel
theorem dX7_weigh_110 : decode cX7_weigh 110 = .ok (.getfield 28, 3) := by decide +kernel
theorem dX7_weigh_113 : decode cX7_weigh 113 = .ok (.iload_n 1, 1) := by decide +kernel
theorem dX7_weigh_114 : decode cX7_weigh 114 = .ok (.iaload, 1) := by decide +kernel
theorem dX7_weigh_115 : decode cX7_weigh 115 = .ok (.iadd, 1) := by decide +kernel
theorem dX7_weigh_116 : decode cX7_weigh 116 = .ok (.putfield 21, 3) := by decide +kernel
theorem dX7_weigh_119 : decode cX7_weigh 119 = .ok (.goto 18, 3) := by decide +kernel
theorem dX7_weigh_122 : decode cX7_weigh 122 = .ok (.aload_n 0, 1) := by decide +kernel
theorem dX7_weigh_123 : decode cX7_weigh 123 = .ok (.dup, 1) := by decide +kernel
theorem dX7_weigh_124 : decode cX7_weigh 124 = .ok (.getfield 21, 3) := by decide +kernel
theorem dX7_weigh_127 : decode cX7_weigh 127 = .ok (.aload_n 0, 1) := by decide +kernel
theorem dX7_weigh_128 : decode cX7_weigh 128 = .ok (.getfield 28, 3) := by decide +kernel
theorem dX7_weigh_131 : decode cX7_weigh 131 = .ok (.iload_n 1, 1) := by decide +kernel
theorem dX7_weigh_132 : decode cX7_weigh 132 = .ok (.iaload, 1) := by decide +kernel
theorem dX7_weigh_133 : decode cX7_weigh 133 = .ok (.isub, 1) := by decide +kernel
theorem dX7_weigh_134 : decode cX7_weigh 134 = .ok (.putfield 21, 3) := by decide +kernel
theorem dX7_weigh_137 : decode cX7_weigh 137 = .ok (.iinc 1 1, 3) := by decide +kernel
theorem dX7_weigh_140 : decode cX7_weigh 140 = .ok (.goto (-128), 3) := by decide +kernel
theorem dX7_weigh_143 : decode cX7_weigh 143 = .ok (.return_, 1) := by decide +kernel
theorem dX7_holds_0 : decode cX7_holds 0 = .ok (.iconst 0, 1) := by decide +kernel
theorem dX7_holds_1 : decode cX7_holds 1 = .ok (.istore_n 2, 1) := by decide +kernel
theorem dX7_holds_2 : decode cX7_holds 2 = .ok (.aload_n 0, 1) := by decide +kernel
theorem dX7_holds_3 : decode cX7_holds 3 = .ok (.getfield 31, 3) := by decide +kernel
theorem dX7_holds_6 : decode cX7_holds 6 = .ok (.iload_n 1, 1) := by decide +kernel
theorem dX7_holds_7 : decode cX7_holds 7 = .ok (.iaload, 1) := by decide +kernel
theorem dX7_holds_8 : decode cX7_holds 8 = .ok (.istore_n 3, 1) := by decide +kernel
theorem dX7_holds_9 : decode cX7_holds 9 = .ok (.iload_n 3, 1) := by decide +kernel
theorem dX7_holds_10 : decode cX7_holds 10 = .ok (.aload_n 0, 1) := by decide +kernel
theorem dX7_holds_11 : decode cX7_holds 11 = .ok (.getfield 34, 3) := by decide +kernel
theorem dX7_holds_14 : decode cX7_holds 14 = .ok (.iload_n 1, 1) := by decide +kernel
theorem dX7_holds_15 : decode cX7_holds 15 = .ok (.iaload, 1) := by decide +kernel
theorem dX7_holds_16 : decode cX7_holds 16 = .ok (.if_icmp .ge 139, 3) := by decide +kernel
theorem dX7_holds_19 : decode cX7_holds 19 = .ok (.iload_n 3, 1) := by decide +kernel
theorem dX7_holds_20 : decode cX7_holds 20 = .ok (.sipush 400, 3) := by decide +kernel
theorem dX7_holds_23 : decode cX7_holds 23 = .ok (.if_icmp .ge 132, 3) := by decide +kernel
theorem dX7_holds_26 : decode cX7_holds 26 = .ok (.aload_n 0, 1) := by decide +kernel
theorem dX7_holds_27 : decode cX7_holds 27 = .ok (.getfield 37, 3) := by decide +kernel
theorem dX7_holds_30 : decode cX7_holds 30 = .ok (.iload_n 3, 1) := by decide +kernel
theorem dX7_holds_31 : decode cX7_holds 31 = .ok (.iaload, 1) := by decide +kernel
theorem dX7_holds_32 : decode cX7_holds 32 = .ok (.istore 4, 2) := by decide +kernel
theorem dX7_holds_34 : decode cX7_holds 34 = .ok (.iload 4, 2) := by decide +kernel
theorem dX7_holds_36 : decode cX7_holds 36 = .ok (.bipush (-9), 2) := by decide +kernel
theorem dX7_holds_38 : decode cX7_holds 38 = .ok (.if_icmp .le 43, 3) := by decide +kernel
theorem dX7_holds_41 : decode cX7_holds 41 = .ok (.iload_n 2, 1) := by decide +kernel
theorem dX7_holds_42 : decode cX7_holds 42 = .ok (.aload_n 0, 1) := by decide +kernel
theorem dX7_holds_43 : decode cX7_holds 43 = .ok (.getfield 43, 3) := by decide +kernel
theorem dX7_holds_46 : decode cX7_holds 46 = .ok (.arraylength, 1) := by decide +kernel
theorem dX7_holds_47 : decode cX7_holds 47 = .ok (.if_icmp .ge 34, 3) := by decide +kernel
theorem dX7_holds_50 : decode cX7_holds 50 = .ok (.aload_n 0, 1) := by decide +kernel
theorem dX7_holds_51 : decode cX7_holds 51 = .ok (.getfield 43, 3) := by decide +kernel
theorem dX7_holds_54 : decode cX7_holds 54 = .ok (.iload_n 2, 1) := by decide +kernel
theorem dX7_holds_55 : decode cX7_holds 55 = .ok (.iload 4, 2) := by decide +kernel
theorem dX7_holds_57 : decode cX7_holds 57 = .ok (.ifCond .lt 8, 3) := by decide +kernel
theorem dX7_holds_60 : decode cX7_holds 60 = .ok (.iload 4, 2) := by decide +kernel
theorem dX7_holds_62 : decode cX7_holds 62 = .ok (.goto 12, 3) := by decide +kernel
theorem dX7_holds_65 : decode cX7_holds 65 = .ok (.aload_n 0, 1) := by decide +kernel
theorem dX7_holds_66 : decode cX7_holds 66 = .ok (.getfield 40, 3) := by decide +kernel
theorem dX7_holds_69 : decode cX7_holds 69 = .ok (.iconst (-1), 1) := by decide +kernel
theorem dX7_holds_70 : decode cX7_holds 70 = .ok (.iload 4, 2) := by decide +kernel
theorem dX7_holds_72 : decode cX7_holds 72 = .ok (.isub, 1) := by decide +kernel
theorem dX7_holds_73 : decode cX7_holds 73 = .ok (.iaload, 1) := by decide +kernel
theorem dX7_holds_74 : decode cX7_holds 74 = .ok (.iastore, 1) := by decide +kernel
theorem dX7_holds_75 : decode cX7_holds 75 = .ok (.iinc 2 1, 3) := by decide +kernel
theorem dX7_holds_78 : decode cX7_holds 78 = .ok (.goto 71, 3) := by decide +kernel
theorem dX7_holds_81 : decode cX7_holds 81 = .ok (.iload 4, 2) := by decide +kernel
theorem dX7_holds_83 : decode cX7_holds 83 = .ok (.bipush (-12), 2) := by decide +kernel
theorem dX7_holds_85 : decode cX7_holds 85 = .ok (.if_icmp .ne 29, 3) := by decide +kernel
theorem dX7_holds_88 : decode cX7_holds 88 = .ok (.iload_n 2, 1) := by decide +kernel
theorem dX7_holds_89 : decode cX7_holds 89 = .ok (.iconst 1, 1) := by decide +kernel
theorem dX7_holds_90 : decode cX7_holds 90 = .ok (.if_icmp .lt 24, 3) := by decide +kernel
theorem dX7_holds_93 : decode cX7_holds 93 = .ok (.aload_n 0, 1) := by decide +kernel
theorem dX7_holds_94 : decode cX7_holds 94 = .ok (.getfield 43, 3) := by decide +kernel
theorem dX7_holds_97 : decode cX7_holds 97 = .ok (.iload_n 2, 1) := by decide +kernel
theorem dX7_holds_98 : decode cX7_holds 98 = .ok (.iconst 1, 1) := by decide +kernel
theorem dX7_holds_99 : decode cX7_holds 99 = .ok (.isub, 1) := by decide +kernel
theorem dX7_holds_100 : decode cX7_holds 100 = .ok (.iconst 1, 1) := by decide +kernel
theorem dX7_holds_101 : decode cX7_holds 101 = .ok (.aload_n 0, 1) := by decide +kernel
theorem dX7_holds_102 : decode cX7_holds 102 = .ok (.getfield 43, 3) := by decide +kernel
theorem dX7_holds_105 : decode cX7_holds 105 = .ok (.iload_n 2, 1) := by decide +kernel
theorem dX7_holds_106 : decode cX7_holds 106 = .ok (.iconst 1, 1) := by decide +kernel
theorem dX7_holds_107 : decode cX7_holds 107 = .ok (.isub, 1) := by decide +kernel
theorem dX7_holds_108 : decode cX7_holds 108 = .ok (.iaload, 1) := by decide +kernel
theorem dX7_holds_109 : decode cX7_holds 109 = .ok (.isub, 1) := by decide +kernel
theorem dX7_holds_110 : decode cX7_holds 110 = .ok (.iastore, 1) := by decide +kernel
theorem dX7_holds_111 : decode cX7_holds 111 = .ok (.goto 38, 3) := by decide +kernel
theorem dX7_holds_114 : decode cX7_holds 114 = .ok (.iload_n 2, 1) := by decide +kernel
theorem dX7_holds_115 : decode cX7_holds 115 = .ok (.iconst 2, 1) := by decide +kernel
theorem dX7_holds_116 : decode cX7_holds 116 = .ok (.if_icmp .lt 33, 3) := by decide +kernel
theorem dX7_holds_119 : decode cX7_holds 119 = .ok (.iinc 2 (-1), 3) := by decide +kernel
theorem dX7_holds_122 : decode cX7_holds 122 = .ok (.aload_n 0, 1) := by decide +kernel
theorem dX7_holds_123 : decode cX7_holds 123 = .ok (.getfield 43, 3) := by decide +kernel
theorem dX7_holds_126 : decode cX7_holds 126 = .ok (.iload_n 2, 1) := by decide +kernel
theorem dX7_holds_127 : decode cX7_holds 127 = .ok (.iconst 1, 1) := by decide +kernel
theorem dX7_holds_128 : decode cX7_holds 128 = .ok (.isub, 1) := by decide +kernel
theorem dX7_holds_129 : decode cX7_holds 129 = .ok (.iload 4, 2) := by decide +kernel
theorem dX7_holds_131 : decode cX7_holds 131 = .ok (.aload_n 0, 1) := by decide +kernel
theorem dX7_holds_132 : decode cX7_holds 132 = .ok (.getfield 43, 3) := by decide +kernel
theorem dX7_holds_135 : decode cX7_holds 135 = .ok (.iload_n 2, 1) := by decide +kernel
theorem dX7_holds_136 : decode cX7_holds 136 = .ok (.iconst 1, 1) := by decide +kernel
theorem dX7_holds_137 : decode cX7_holds 137 = .ok (.isub, 1) := by decide +kernel
theorem dX7_holds_138 : decode cX7_holds 138 = .ok (.iaload, 1) := by decide +kernel
theorem dX7_holds_139 : decode cX7_holds 139 = .ok (.aload_n 0, 1) := by decide +kernel
theorem dX7_holds_140 : decode cX7_holds 140 = .ok (.getfield 43, 3) := by decide +kernel
theorem dX7_holds_143 : decode cX7_holds 143 = .ok (.iload_n 2, 1) := by decide +kernel
theorem dX7_holds_144 : decode cX7_holds 144 = .ok (.iaload, 1) := by decide +kernel
theorem dX7_holds_145 : decode cX7_holds 145 = .ok (.invokestatic 60, 3) := by decide +kernel
theorem dX7_holds_148 : decode cX7_holds 148 = .ok (.iastore, 1) := by decide +kernel
theorem dX7_holds_149 : decode cX7_holds 149 = .ok (.iinc 3 1, 3) := by decide +kernel
theorem dX7_holds_152 : decode cX7_holds 152 = .ok (.goto (-143), 3) := by decide +kernel
theorem dX7_holds_155 : decode cX7_holds 155 = .ok (.iload_n 2, 1) := by decide +kernel
theorem dX7_holds_156 : decode cX7_holds 156 = .ok (.ifCond .eq 12, 3) := by decide +kernel
theorem dX7_holds_159 : decode cX7_holds 159 = .ok (.aload_n 0, 1) := by decide +kernel
theorem dX7_holds_160 : decode cX7_holds 160 = .ok (.getfield 43, 3) := by decide +kernel
theorem dX7_holds_163 : decode cX7_holds 163 = .ok (.iconst 0, 1) := by decide +kernel
theorem dX7_holds_164 : decode cX7_holds 164 = .ok (.iaload, 1) := by decide +kernel
theorem dX7_holds_165 : decode cX7_holds 165 = .ok (.ifCond .eq 7, 3) := by decide +kernel
theorem dX7_holds_168 : decode cX7_holds 168 = .ok (.iconst 1, 1) := by decide +kernel
theorem dX7_holds_169 : decode cX7_holds 169 = .ok (.goto 4, 3) := by decide +kernel
theorem dX7_holds_172 : decode cX7_holds 172 = .ok (.iconst 0, 1) := by decide +kernel
theorem dX7_holds_173 : decode cX7_holds 173 = .ok (.ireturn, 1) := by decide +kernel
theorem dX7_joined_0 : decode cX7_joined 0 = .ok (.iload_n 0, 1) := by decide +kernel
theorem dX7_joined_1 : decode cX7_joined 1 = .ok (.tableswitch 65 (-13) (-9) #[61, 65, 50, 39, 35], 35) := by decide +kernel
theorem dX7_joined_36 : decode cX7_joined 36 = .ok (.iload_n 1, 1) := by decide +kernel
theorem dX7_joined_37 : decode cX7_joined 37 = .ok (.iload_n 2, 1) := by decide +kernel
theorem dX7_joined_38 : decode cX7_joined 38 = .ok (.iadd, 1) := by decide +kernel
theorem dX7_joined_39 : decode cX7_joined 39 = .ok (.ireturn, 1) := by decide +kernel
theorem dX7_joined_40 : decode cX7_joined 40 = .ok (.iload_n 1, 1) := by decide +kernel
theorem dX7_joined_41 : decode cX7_joined 41 = .ok (.iload_n 2, 1) := by decide +kernel
theorem dX7_joined_42 : decode cX7_joined 42 = .ok (.if_icmp .ge 7, 3) := by decide +kernel
theorem dX7_joined_45 : decode cX7_joined 45 = .ok (.iconst 1, 1) := by decide +kernel
theorem dX7_joined_46 : decode cX7_joined 46 = .ok (.goto 4, 3) := by decide +kernel
theorem dX7_joined_49 : decode cX7_joined 49 = .ok (.iconst 0, 1) := by decide +kernel
theorem dX7_joined_50 : decode cX7_joined 50 = .ok (.ireturn, 1) := by decide +kernel
theorem dX7_joined_51 : decode cX7_joined 51 = .ok (.iload_n 1, 1) := by decide +kernel
theorem dX7_joined_52 : decode cX7_joined 52 = .ok (.iload_n 2, 1) := by decide +kernel
theorem dX7_joined_53 : decode cX7_joined 53 = .ok (.if_icmp .le 7, 3) := by decide +kernel
theorem dX7_joined_56 : decode cX7_joined 56 = .ok (.iconst 1, 1) := by decide +kernel
theorem dX7_joined_57 : decode cX7_joined 57 = .ok (.goto 4, 3) := by decide +kernel
theorem dX7_joined_60 : decode cX7_joined 60 = .ok (.iconst 0, 1) := by decide +kernel
theorem dX7_joined_61 : decode cX7_joined 61 = .ok (.ireturn, 1) := by decide +kernel
theorem dX7_joined_62 : decode cX7_joined 62 = .ok (.iload_n 1, 1) := by decide +kernel
theorem dX7_joined_63 : decode cX7_joined 63 = .ok (.iload_n 2, 1) := by decide +kernel
theorem dX7_joined_64 : decode cX7_joined 64 = .ok (.iand, 1) := by decide +kernel
theorem dX7_joined_65 : decode cX7_joined 65 = .ok (.ireturn, 1) := by decide +kernel
theorem dX7_joined_66 : decode cX7_joined 66 = .ok (.iload_n 1, 1) := by decide +kernel
theorem dX7_joined_67 : decode cX7_joined 67 = .ok (.iload_n 2, 1) := by decide +kernel
theorem dX7_joined_68 : decode cX7_joined 68 = .ok (.ior, 1) := by decide +kernel
theorem dX7_joined_69 : decode cX7_joined 69 = .ok (.ireturn, 1) := by decide +kernel
theorem dX8_init_0 : decode cX8_init 0 = .ok (.aload_n 0, 1) := by decide +kernel
theorem dX8_init_1 : decode cX8_init 1 = .ok (.invokespecial 3, 3) := by decide +kernel
theorem dX8_init_4 : decode cX8_init 4 = .ok (.aload_n 0, 1) := by decide +kernel
theorem dX8_init_5 : decode cX8_init 5 = .ok (.new 9, 3) := by decide +kernel
theorem dX8_init_8 : decode cX8_init 8 = .ok (.dup, 1) := by decide +kernel
theorem dX8_init_9 : decode cX8_init 9 = .ok (.aload_n 1, 1) := by decide +kernel
theorem dX8_init_10 : decode cX8_init 10 = .ok (.invokespecial 11, 3) := by decide +kernel
theorem dX8_init_13 : decode cX8_init 13 = .ok (.putfield 14, 3) := by decide +kernel
theorem dX8_init_16 : decode cX8_init 16 = .ok (.aload_n 0, 1) := by decide +kernel
theorem dX8_init_17 : decode cX8_init 17 = .ok (.aload_n 2, 1) := by decide +kernel
theorem dX8_init_18 : decode cX8_init 18 = .ok (.putfield 20, 3) := by decide +kernel
theorem dX8_init_21 : decode cX8_init 21 = .ok (.return_, 1) := by decide +kernel
theorem dX8_read_0 : decode cX8_read 0 = .ok (.aload_n 0, 1) := by decide +kernel
theorem dX8_read_1 : decode cX8_read 1 = .ok (.getfield 20, 3) := by decide +kernel
theorem dX8_read_4 : decode cX8_read 4 = .ok (.invokevirtual 24, 3) := by decide +kernel
theorem dX8_read_7 : decode cX8_read 7 = .ok (.aload_n 0, 1) := by decide +kernel
theorem dX8_read_8 : decode cX8_read 8 = .ok (.getfield 14, 3) := by decide +kernel
theorem dX8_read_11 : decode cX8_read 11 = .ok (.iload_n 1, 1) := by decide +kernel
theorem dX8_read_12 : decode cX8_read 12 = .ok (.invokevirtual 29, 3) := by decide +kernel
theorem dX8_read_15 : decode cX8_read 15 = .ok (.aload_n 0, 1) := by decide +kernel
theorem dX8_read_16 : decode cX8_read 16 = .ok (.getfield 14, 3) := by decide +kernel
theorem dX8_read_19 : decode cX8_read 19 = .ok (.getfield 33, 3) := by decide +kernel
theorem dX8_read_22 : decode cX8_read 22 = .ok (.ifCond .eq 7, 3) := by decide +kernel
theorem dX8_read_25 : decode cX8_read 25 = .ok (.iconst 1, 1) := by decide +kernel
theorem dX8_read_26 : decode cX8_read 26 = .ok (.goto 4, 3) := by decide +kernel
theorem dX8_read_29 : decode cX8_read 29 = .ok (.iconst 0, 1) := by decide +kernel
theorem dX8_read_30 : decode cX8_read 30 = .ok (.istore_n 2, 1) := by decide +kernel
theorem dX8_read_31 : decode cX8_read 31 = .ok (.iconst 0, 1) := by decide +kernel
theorem dX8_read_32 : decode cX8_read 32 = .ok (.istore_n 3, 1) := by decide +kernel
theorem dX8_read_33 : decode cX8_read 33 = .ok (.iload_n 2, 1) := by decide +kernel
theorem dX8_read_34 : decode cX8_read 34 = .ok (.ifCond .eq 70, 3) := by decide +kernel
theorem dX8_read_37 : decode cX8_read 37 = .ok (.iload_n 3, 1) := by decide +kernel
theorem dX8_read_38 : decode cX8_read 38 = .ok (.bipush 12, 2) := by decide +kernel
theorem dX8_read_40 : decode cX8_read 40 = .ok (.if_icmp .gt 64, 3) := by decide +kernel
theorem dX8_read_43 : decode cX8_read 43 = .ok (.iload_n 3, 1) := by decide +kernel
theorem dX8_read_44 : decode cX8_read 44 = .ok (.bipush 12, 2) := by decide +kernel
theorem dX8_read_46 : decode cX8_read 46 = .ok (.if_icmp .ge 10, 3) := by decide +kernel
theorem dX8_read_49 : decode cX8_read 49 = .ok (.aload_n 0, 1) := by decide +kernel
theorem dX8_read_50 : decode cX8_read 50 = .ok (.invokevirtual 37, 3) := by decide +kernel
theorem dX8_read_53 : decode cX8_read 53 = .ok (.goto 10, 3) := by decide +kernel
theorem dX8_read_56 : decode cX8_read 56 = .ok (.aload_n 0, 1) := by decide +kernel
theorem dX8_read_57 : decode cX8_read 57 = .ok (.getfield 14, 3) := by decide +kernel
theorem dX8_read_60 : decode cX8_read 60 = .ok (.invokevirtual 41, 3) := by decide +kernel
theorem dX8_read_63 : decode cX8_read 63 = .ok (.istore 4, 2) := by decide +kernel
theorem dX8_read_65 : decode cX8_read 65 = .ok (.iload 4, 2) := by decide +kernel
theorem dX8_read_67 : decode cX8_read 67 = .ok (.ifCond .eq 29, 3) := by decide +kernel
theorem dX8_read_70 : decode cX8_read 70 = .ok (.aload_n 0, 1) := by decide +kernel
theorem dX8_read_71 : decode cX8_read 71 = .ok (.getfield 14, 3) := by decide +kernel
theorem dX8_read_74 : decode cX8_read 74 = .ok (.getfield 33, 3) := by decide +kernel
theorem dX8_read_77 : decode cX8_read 77 = .ok (.ifCond .eq 19, 3) := by decide +kernel
theorem dX8_read_80 : decode cX8_read 80 = .ok (.aload_n 0, 1) := by decide +kernel
theorem dX8_read_81 : decode cX8_read 81 = .ok (.getfield 14, 3) := by decide +kernel
theorem dX8_read_84 : decode cX8_read 84 = .ok (.bipush 59, 2) := by decide +kernel
theorem dX8_read_86 : decode cX8_read 86 = .ok (.invokevirtual 44, 3) := by decide +kernel
theorem dX8_read_89 : decode cX8_read 89 = .ok (.ifCond .eq 7, 3) := by decide +kernel
theorem dX8_read_92 : decode cX8_read 92 = .ok (.iconst 1, 1) := by decide +kernel
theorem dX8_read_93 : decode cX8_read 93 = .ok (.goto 4, 3) := by decide +kernel
theorem dX8_read_96 : decode cX8_read 96 = .ok (.iconst 0, 1) := by decide +kernel
theorem dX8_read_97 : decode cX8_read 97 = .ok (.istore_n 2, 1) := by decide +kernel
theorem dX8_read_98 : decode cX8_read 98 = .ok (.iinc 3 1, 3) := by decide +kernel
theorem dX8_read_101 : decode cX8_read 101 = .ok (.goto (-68), 3) := by decide +kernel
theorem dX8_read_104 : decode cX8_read 104 = .ok (.aload_n 0, 1) := by decide +kernel
theorem dX8_read_105 : decode cX8_read 105 = .ok (.getfield 14, 3) := by decide +kernel
theorem dX8_read_108 : decode cX8_read 108 = .ok (.getfield 48, 3) := by decide +kernel
theorem dX8_read_111 : decode cX8_read 111 = .ok (.ireturn, 1) := by decide +kernel
theorem dX8_takesLine_0 : decode cX8_takesLine 0 = .ok (.aload_n 0, 1) := by decide +kernel
theorem dX8_takesLine_1 : decode cX8_takesLine 1 = .ok (.invokevirtual 51, 3) := by decide +kernel
theorem dX8_takesLine_4 : decode cX8_takesLine 4 = .ok (.istore_n 1, 1) := by decide +kernel
theorem dX8_takesLine_5 : decode cX8_takesLine 5 = .ok (.iload_n 1, 1) := by decide +kernel
theorem dX8_takesLine_6 : decode cX8_takesLine 6 = .ok (.iconst (-1), 1) := by decide +kernel
theorem dX8_takesLine_7 : decode cX8_takesLine 7 = .ok (.if_icmp .ne 11, 3) := by decide +kernel
theorem dX8_takesLine_10 : decode cX8_takesLine 10 = .ok (.aload_n 0, 1) := by decide +kernel
theorem dX8_takesLine_11 : decode cX8_takesLine 11 = .ok (.getfield 14, 3) := by decide +kernel
theorem dX8_takesLine_14 : decode cX8_takesLine 14 = .ok (.invokevirtual 41, 3) := by decide +kernel
theorem dX8_takesLine_17 : decode cX8_takesLine 17 = .ok (.ireturn, 1) := by decide +kernel
theorem dX8_takesLine_18 : decode cX8_takesLine 18 = .ok (.aload_n 0, 1) := by decide +kernel
theorem dX8_takesLine_19 : decode cX8_takesLine 19 = .ok (.getfield 14, 3) := by decide +kernel
theorem dX8_takesLine_22 : decode cX8_takesLine 22 = .ok (.invokevirtual 55, 3) := by decide +kernel
theorem dX8_takesLine_25 : decode cX8_takesLine 25 = .ok (.aload_n 0, 1) := by decide +kernel
theorem dX8_takesLine_26 : decode cX8_takesLine 26 = .ok (.getfield 14, 3) := by decide +kernel
theorem dX8_takesLine_29 : decode cX8_takesLine 29 = .ok (.iconst 0, 1) := by decide +kernel
theorem dX8_takesLine_30 : decode cX8_takesLine 30 = .ok (.bipush 9, 2) := by decide +kernel
theorem dX8_takesLine_32 : decode cX8_takesLine 32 = .ok (.invokevirtual 58, 3) := by decide +kernel
theorem dX8_takesLine_35 : decode cX8_takesLine 35 = .ok (.ifCond .ne 5, 3) := by decide +kernel
theorem dX8_takesLine_38 : decode cX8_takesLine 38 = .ok (.iconst 0, 1) := by decide +kernel
theorem dX8_takesLine_39 : decode cX8_takesLine 39 = .ok (.ireturn, 1) := by decide +kernel
theorem dX8_takesLine_40 : decode cX8_takesLine 40 = .ok (.aload_n 0, 1) := by decide +kernel
theorem dX8_takesLine_41 : decode cX8_takesLine 41 = .ok (.getfield 20, 3) := by decide +kernel
theorem dX8_takesLine_44 : decode cX8_takesLine 44 = .ok (.iload_n 1, 1) := by decide +kernel
theorem dX8_takesLine_45 : decode cX8_takesLine 45 = .ok (.aload_n 0, 1) := by decide +kernel
theorem dX8_takesLine_46 : decode cX8_takesLine 46 = .ok (.getfield 14, 3) := by decide +kernel
theorem dX8_takesLine_49 : decode cX8_takesLine 49 = .ok (.getfield 62, 3) := by decide +kernel
theorem dX8_takesLine_52 : decode cX8_takesLine 52 = .ok (.invokevirtual 65, 3) := by decide +kernel
theorem dX8_takesLine_55 : decode cX8_takesLine 55 = .ok (.aload_n 0, 1) := by decide +kernel
theorem dX8_takesLine_56 : decode cX8_takesLine 56 = .ok (.getfield 14, 3) := by decide +kernel
theorem dX8_takesLine_59 : decode cX8_takesLine 59 = .ok (.ldc 69, 2) := by decide +kernel
theorem dX8_takesLine_61 : decode cX8_takesLine 61 = .ok (.invokevirtual 71, 3) := by decide +kernel
theorem dX8_takesLine_64 : decode cX8_takesLine 64 = .ok (.ifCond .eq 20, 3) := by decide +kernel
theorem dX8_takesLine_67 : decode cX8_takesLine 67 = .ok (.aload_n 0, 1) := by decide +kernel
theorem dX8_takesLine_68 : decode cX8_takesLine 68 = .ok (.getfield 14, 3) := by decide +kernel
theorem dX8_takesLine_71 : decode cX8_takesLine 71 = .ok (.invokevirtual 55, 3) := by decide +kernel
theorem dX8_takesLine_74 : decode cX8_takesLine 74 = .ok (.aload_n 0, 1) := by decide +kernel
theorem dX8_takesLine_75 : decode cX8_takesLine 75 = .ok (.iconst 0, 1) := by decide +kernel
theorem dX8_takesLine_76 : decode cX8_takesLine 76 = .ok (.invokevirtual 75, 3) := by decide +kernel
theorem dX8_takesLine_79 : decode cX8_takesLine 79 = .ok (.ifCond .ne 5, 3) := by decide +kernel
theorem dX8_takesLine_82 : decode cX8_takesLine 82 = .ok (.iconst 0, 1) := by decide +kernel
theorem dX8_takesLine_83 : decode cX8_takesLine 83 = .ok (.ireturn, 1) := by decide +kernel
theorem dX8_takesLine_84 : decode cX8_takesLine 84 = .ok (.aload_n 0, 1) := by decide +kernel
theorem dX8_takesLine_85 : decode cX8_takesLine 85 = .ok (.getfield 20, 3) := by decide +kernel
theorem dX8_takesLine_88 : decode cX8_takesLine 88 = .ok (.invokevirtual 79, 3) := by decide +kernel
theorem dX8_takesLine_91 : decode cX8_takesLine 91 = .ok (.iconst 1, 1) := by decide +kernel
theorem dX8_takesLine_92 : decode cX8_takesLine 92 = .ok (.ireturn, 1) := by decide +kernel
theorem dX8_lineKind_0 : decode cX8_lineKind 0 = .ok (.aload_n 0, 1) := by decide +kernel
theorem dX8_lineKind_1 : decode cX8_lineKind 1 = .ok (.getfield 14, 3) := by decide +kernel
theorem dX8_lineKind_4 : decode cX8_lineKind 4 = .ok (.ldc 82, 2) := by decide +kernel
theorem dX8_lineKind_6 : decode cX8_lineKind 6 = .ok (.invokevirtual 71, 3) := by decide +kernel
theorem dX8_lineKind_9 : decode cX8_lineKind 9 = .ok (.ifCond .eq 5, 3) := by decide +kernel
theorem dX8_lineKind_12 : decode cX8_lineKind 12 = .ok (.iconst 0, 1) := by decide +kernel
theorem dX8_lineKind_13 : decode cX8_lineKind 13 = .ok (.ireturn, 1) := by decide +kernel
theorem dX8_lineKind_14 : decode cX8_lineKind 14 = .ok (.aload_n 0, 1) := by decide +kernel
theorem dX8_lineKind_15 : decode cX8_lineKind 15 = .ok (.getfield 14, 3) := by decide +kernel
theorem dX8_lineKind_18 : decode cX8_lineKind 18 = .ok (.ldc 84, 2) := by decide +kernel
theorem dX8_lineKind_20 : decode cX8_lineKind 20 = .ok (.invokevirtual 71, 3) := by decide +kernel
theorem dX8_lineKind_23 : decode cX8_lineKind 23 = .ok (.ifCond .eq 5, 3) := by decide +kernel
theorem dX8_lineKind_26 : decode cX8_lineKind 26 = .ok (.iconst 1, 1) := by decide +kernel
theorem dX8_lineKind_27 : decode cX8_lineKind 27 = .ok (.ireturn, 1) := by decide +kernel
theorem dX8_lineKind_28 : decode cX8_lineKind 28 = .ok (.aload_n 0, 1) := by decide +kernel
theorem dX8_lineKind_29 : decode cX8_lineKind 29 = .ok (.getfield 14, 3) := by decide +kernel
theorem dX8_lineKind_32 : decode cX8_lineKind 32 = .ok (.ldc 86, 2) := by decide +kernel
theorem dX8_lineKind_34 : decode cX8_lineKind 34 = .ok (.invokevirtual 71, 3) := by decide +kernel
theorem dX8_lineKind_37 : decode cX8_lineKind 37 = .ok (.ifCond .eq 5, 3) := by decide +kernel
theorem dX8_lineKind_40 : decode cX8_lineKind 40 = .ok (.iconst 2, 1) := by decide +kernel
theorem dX8_lineKind_41 : decode cX8_lineKind 41 = .ok (.ireturn, 1) := by decide +kernel
theorem dX8_lineKind_42 : decode cX8_lineKind 42 = .ok (.aload_n 0, 1) := by decide +kernel
theorem dX8_lineKind_43 : decode cX8_lineKind 43 = .ok (.getfield 14, 3) := by decide +kernel
theorem dX8_lineKind_46 : decode cX8_lineKind 46 = .ok (.ldc 88, 2) := by decide +kernel
theorem dX8_lineKind_48 : decode cX8_lineKind 48 = .ok (.invokevirtual 71, 3) := by decide +kernel
theorem dX8_lineKind_51 : decode cX8_lineKind 51 = .ok (.ifCond .eq 7, 3) := by decide +kernel
theorem dX8_lineKind_54 : decode cX8_lineKind 54 = .ok (.iconst 3, 1) := by decide +kernel
theorem dX8_lineKind_55 : decode cX8_lineKind 55 = .ok (.goto 4, 3) := by decide +kernel
theorem dX8_lineKind_58 : decode cX8_lineKind 58 = .ok (.iconst (-1), 1) := by decide +kernel
theorem dX8_lineKind_59 : decode cX8_lineKind 59 = .ok (.ireturn, 1) := by decide +kernel
theorem dX8_takesEither_0 : decode cX8_takesEither 0 = .ok (.aload_n 0, 1) := by decide +kernel
theorem dX8_takesEither_1 : decode cX8_takesEither 1 = .ok (.iload_n 1, 1) := by decide +kernel
theorem dX8_takesEither_2 : decode cX8_takesEither 2 = .ok (.invokevirtual 90, 3) := by decide +kernel
theorem dX8_takesEither_5 : decode cX8_takesEither 5 = .ok (.istore_n 2, 1) := by decide +kernel
theorem dX8_takesEither_6 : decode cX8_takesEither 6 = .ok (.iconst 0, 1) := by decide +kernel
theorem dX8_takesEither_7 : decode cX8_takesEither 7 = .ok (.istore_n 3, 1) := by decide +kernel
theorem dX8_takesEither_8 : decode cX8_takesEither 8 = .ok (.iload_n 3, 1) := by decide +kernel
theorem dX8_takesEither_9 : decode cX8_takesEither 9 = .ok (.sipush 400, 3) := by decide +kernel
theorem dX8_takesEither_12 : decode cX8_takesEither 12 = .ok (.if_icmp .ge 47, 3) := by decide +kernel
theorem dX8_takesEither_15 : decode cX8_takesEither 15 = .ok (.iload_n 2, 1) := by decide +kernel
theorem dX8_takesEither_16 : decode cX8_takesEither 16 = .ok (.ifCond .eq 43, 3) := by decide +kernel
theorem dX8_takesEither_19 : decode cX8_takesEither 19 = .ok (.aload_n 0, 1) := by decide +kernel
theorem dX8_takesEither_20 : decode cX8_takesEither 20 = .ok (.getfield 14, 3) := by decide +kernel
theorem dX8_takesEither_23 : decode cX8_takesEither 23 = .ok (.ldc 93, 2) := by decide +kernel
theorem dX8_takesEither_25 : decode cX8_takesEither 25 = .ok (.invokevirtual 71, 3) := by decide +kernel
theorem dX8_takesEither_28 : decode cX8_takesEither 28 = .ok (.ifCond .eq 31, 3) := by decide +kernel
theorem dX8_takesEither_31 : decode cX8_takesEither 31 = .ok (.aload_n 0, 1) := by decide +kernel
theorem dX8_takesEither_32 : decode cX8_takesEither 32 = .ok (.getfield 14, 3) := by decide +kernel
theorem dX8_takesEither_35 : decode cX8_takesEither 35 = .ok (.invokevirtual 55, 3) := by decide +kernel
theorem dX8_takesEither_38 : decode cX8_takesEither 38 = .ok (.aload_n 0, 1) := by decide +kernel
theorem dX8_takesEither_39 : decode cX8_takesEither 39 = .ok (.iload_n 1, 1) := by decide +kernel
theorem dX8_takesEither_40 : decode cX8_takesEither 40 = .ok (.invokevirtual 90, 3) := by decide +kernel
theorem dX8_takesEither_43 : decode cX8_takesEither 43 = .ok (.istore_n 2, 1) := by decide +kernel
theorem dX8_takesEither_44 : decode cX8_takesEither 44 = .ok (.aload_n 0, 1) := by decide +kernel
theorem dX8_takesEither_45 : decode cX8_takesEither 45 = .ok (.getfield 20, 3) := by decide +kernel
theorem dX8_takesEither_48 : decode cX8_takesEither 48 = .ok (.bipush (-14), 2) := by decide +kernel
theorem dX8_takesEither_50 : decode cX8_takesEither 50 = .ok (.invokevirtual 95, 3) := by decide +kernel
theorem dX8_takesEither_53 : decode cX8_takesEither 53 = .ok (.iinc 3 1, 3) := by decide +kernel
theorem dX8_takesEither_56 : decode cX8_takesEither 56 = .ok (.goto (-48), 3) := by decide +kernel
theorem dX8_takesEither_59 : decode cX8_takesEither 59 = .ok (.iload_n 2, 1) := by decide +kernel
theorem dX8_takesEither_60 : decode cX8_takesEither 60 = .ok (.ireturn, 1) := by decide +kernel
theorem dX8_takesBoth_0 : decode cX8_takesBoth 0 = .ok (.aload_n 0, 1) := by decide +kernel
theorem dX8_takesBoth_1 : decode cX8_takesBoth 1 = .ok (.iload_n 1, 1) := by decide +kernel
theorem dX8_takesBoth_2 : decode cX8_takesBoth 2 = .ok (.invokevirtual 98, 3) := by decide +kernel
theorem dX8_takesBoth_5 : decode cX8_takesBoth 5 = .ok (.istore_n 2, 1) := by decide +kernel
theorem dX8_takesBoth_6 : decode cX8_takesBoth 6 = .ok (.iconst 0, 1) := by decide +kernel
theorem dX8_takesBoth_7 : decode cX8_takesBoth 7 = .ok (.istore_n 3, 1) := by decide +kernel
theorem dX8_takesBoth_8 : decode cX8_takesBoth 8 = .ok (.iload_n 3, 1) := by decide +kernel
theorem dX8_takesBoth_9 : decode cX8_takesBoth 9 = .ok (.sipush 400, 3) := by decide +kernel
theorem dX8_takesBoth_12 : decode cX8_takesBoth 12 = .ok (.if_icmp .ge 47, 3) := by decide +kernel
theorem dX8_takesBoth_15 : decode cX8_takesBoth 15 = .ok (.iload_n 2, 1) := by decide +kernel
theorem dX8_takesBoth_16 : decode cX8_takesBoth 16 = .ok (.ifCond .eq 43, 3) := by decide +kernel
theorem dX8_takesBoth_19 : decode cX8_takesBoth 19 = .ok (.aload_n 0, 1) := by decide +kernel
theorem dX8_takesBoth_20 : decode cX8_takesBoth 20 = .ok (.getfield 14, 3) := by decide +kernel
theorem dX8_takesBoth_23 : decode cX8_takesBoth 23 = .ok (.ldc 101, 2) := by decide +kernel
theorem dX8_takesBoth_25 : decode cX8_takesBoth 25 = .ok (.invokevirtual 71, 3) := by decide +kernel
theorem dX8_takesBoth_28 : decode cX8_takesBoth 28 = .ok (.ifCond .eq 31, 3) := by decide +kernel
theorem dX8_takesBoth_31 : decode cX8_takesBoth 31 = .ok (.aload_n 0, 1) := by decide +kernel
theorem dX8_takesBoth_32 : decode cX8_takesBoth 32 = .ok (.getfield 14, 3) := by decide +kernel
theorem dX8_takesBoth_35 : decode cX8_takesBoth 35 = .ok (.invokevirtual 55, 3) := by decide +kernel
theorem dX8_takesBoth_38 : decode cX8_takesBoth 38 = .ok (.aload_n 0, 1) := by decide +kernel
theorem dX8_takesBoth_39 : decode cX8_takesBoth 39 = .ok (.iload_n 1, 1) := by decide +kernel
theorem dX8_takesBoth_40 : decode cX8_takesBoth 40 = .ok (.invokevirtual 98, 3) := by decide +kernel
theorem dX8_takesBoth_43 : decode cX8_takesBoth 43 = .ok (.istore_n 2, 1) := by decide +kernel
theorem dX8_takesBoth_44 : decode cX8_takesBoth 44 = .ok (.aload_n 0, 1) := by decide +kernel
theorem dX8_takesBoth_45 : decode cX8_takesBoth 45 = .ok (.getfield 20, 3) := by decide +kernel
theorem dX8_takesBoth_48 : decode cX8_takesBoth 48 = .ok (.bipush (-13), 2) := by decide +kernel
theorem dX8_takesBoth_50 : decode cX8_takesBoth 50 = .ok (.invokevirtual 95, 3) := by decide +kernel
theorem dX8_takesBoth_53 : decode cX8_takesBoth 53 = .ok (.iinc 3 1, 3) := by decide +kernel
theorem dX8_takesBoth_56 : decode cX8_takesBoth 56 = .ok (.goto (-48), 3) := by decide +kernel
theorem dX8_takesBoth_59 : decode cX8_takesBoth 59 = .ok (.iload_n 2, 1) := by decide +kernel
theorem dX8_takesBoth_60 : decode cX8_takesBoth 60 = .ok (.ireturn, 1) := by decide +kernel
theorem dX8_takesAtom_0 : decode cX8_takesAtom 0 = .ok (.aload_n 0, 1) := by decide +kernel
theorem dX8_takesAtom_1 : decode cX8_takesAtom 1 = .ok (.getfield 14, 3) := by decide +kernel
theorem dX8_takesAtom_4 : decode cX8_takesAtom 4 = .ok (.ldc 103, 2) := by decide +kernel
theorem dX8_takesAtom_6 : decode cX8_takesAtom 6 = .ok (.invokevirtual 71, 3) := by decide +kernel
theorem dX8_takesAtom_9 : decode cX8_takesAtom 9 = .ok (.istore_n 2, 1) := by decide +kernel
theorem dX8_takesAtom_10 : decode cX8_takesAtom 10 = .ok (.iload_n 2, 1) := by decide +kernel
theorem dX8_takesAtom_11 : decode cX8_takesAtom 11 = .ok (.ifCond .ne 15, 3) := by decide +kernel
theorem dX8_takesAtom_14 : decode cX8_takesAtom 14 = .ok (.aload_n 0, 1) := by decide +kernel
theorem dX8_takesAtom_15 : decode cX8_takesAtom 15 = .ok (.getfield 14, 3) := by decide +kernel
theorem dX8_takesAtom_18 : decode cX8_takesAtom 18 = .ok (.bipush 40, 2) := by decide +kernel
theorem dX8_takesAtom_20 : decode cX8_takesAtom 20 = .ok (.invokevirtual 105, 3) := by decide +kernel
theorem dX8_takesAtom_23 : decode cX8_takesAtom 23 = .ok (.ifCond .eq 66, 3) := by decide +kernel
theorem dX8_takesAtom_26 : decode cX8_takesAtom 26 = .ok (.iload_n 1, 1) := by decide +kernel
theorem dX8_takesAtom_27 : decode cX8_takesAtom 27 = .ok (.bipush 6, 2) := by decide +kernel
theorem dX8_takesAtom_29 : decode cX8_takesAtom 29 = .ok (.if_icmp .lt 11, 3) := by decide +kernel
theorem dX8_takesAtom_32 : decode cX8_takesAtom 32 = .ok (.aload_n 0, 1) := by decide +kernel
theorem dX8_takesAtom_33 : decode cX8_takesAtom 33 = .ok (.getfield 14, 3) := by decide +kernel
theorem dX8_takesAtom_36 : decode cX8_takesAtom 36 = .ok (.invokevirtual 41, 3) := by decide +kernel
theorem dX8_takesAtom_39 : decode cX8_takesAtom 39 = .ok (.ireturn, 1) := by decide +kernel
theorem dX8_takesAtom_40 : decode cX8_takesAtom 40 = .ok (.aload_n 0, 1) := by decide +kernel
theorem dX8_takesAtom_41 : decode cX8_takesAtom 41 = .ok (.getfield 14, 3) := by decide +kernel
theorem dX8_takesAtom_44 : decode cX8_takesAtom 44 = .ok (.invokevirtual 55, 3) := by decide +kernel
theorem dX8_takesAtom_47 : decode cX8_takesAtom 47 = .ok (.iload_n 2, 1) := by decide +kernel
theorem dX8_takesAtom_48 : decode cX8_takesAtom 48 = .ok (.ifCond .eq 13, 3) := by decide +kernel
theorem dX8_takesAtom_51 : decode cX8_takesAtom 51 = .ok (.aload_n 0, 1) := by decide +kernel
theorem dX8_takesAtom_52 : decode cX8_takesAtom 52 = .ok (.iload_n 1, 1) := by decide +kernel
theorem dX8_takesAtom_53 : decode cX8_takesAtom 53 = .ok (.iconst 1, 1) := by decide +kernel
theorem dX8_takesAtom_54 : decode cX8_takesAtom 54 = .ok (.iadd, 1) := by decide +kernel
theorem dX8_takesAtom_55 : decode cX8_takesAtom 55 = .ok (.invokevirtual 108, 3) := by decide +kernel
theorem dX8_takesAtom_58 : decode cX8_takesAtom 58 = .ok (.goto 30, 3) := by decide +kernel
theorem dX8_takesAtom_61 : decode cX8_takesAtom 61 = .ok (.aload_n 0, 1) := by decide +kernel
theorem dX8_takesAtom_62 : decode cX8_takesAtom 62 = .ok (.iload_n 1, 1) := by decide +kernel
theorem dX8_takesAtom_63 : decode cX8_takesAtom 63 = .ok (.iconst 1, 1) := by decide +kernel
theorem dX8_takesAtom_64 : decode cX8_takesAtom 64 = .ok (.iadd, 1) := by decide +kernel
theorem dX8_takesAtom_65 : decode cX8_takesAtom 65 = .ok (.invokevirtual 75, 3) := by decide +kernel
theorem dX8_takesAtom_68 : decode cX8_takesAtom 68 = .ok (.ifCond .eq 19, 3) := by decide +kernel
theorem dX8_takesAtom_71 : decode cX8_takesAtom 71 = .ok (.aload_n 0, 1) := by decide +kernel
theorem dX8_takesAtom_72 : decode cX8_takesAtom 72 = .ok (.getfield 14, 3) := by decide +kernel
theorem dX8_takesAtom_75 : decode cX8_takesAtom 75 = .ok (.bipush 41, 2) := by decide +kernel
theorem dX8_takesAtom_77 : decode cX8_takesAtom 77 = .ok (.invokevirtual 44, 3) := by decide +kernel
theorem dX8_takesAtom_80 : decode cX8_takesAtom 80 = .ok (.ifCond .eq 7, 3) := by decide +kernel
theorem dX8_takesAtom_83 : decode cX8_takesAtom 83 = .ok (.iconst 1, 1) := by decide +kernel
theorem dX8_takesAtom_84 : decode cX8_takesAtom 84 = .ok (.goto 4, 3) := by decide +kernel
theorem dX8_takesAtom_87 : decode cX8_takesAtom 87 = .ok (.iconst 0, 1) := by decide +kernel
theorem dX8_takesAtom_88 : decode cX8_takesAtom 88 = .ok (.ireturn, 1) := by decide +kernel
theorem dX8_takesAtom_89 : decode cX8_takesAtom 89 = .ok (.aload_n 0, 1) := by decide +kernel
theorem dX8_takesAtom_90 : decode cX8_takesAtom 90 = .ok (.getfield 14, 3) := by decide +kernel
theorem dX8_takesAtom_93 : decode cX8_takesAtom 93 = .ok (.ldc 111, 2) := by decide +kernel
theorem dX8_takesAtom_95 : decode cX8_takesAtom 95 = .ok (.invokevirtual 71, 3) := by decide +kernel
theorem dX8_takesAtom_98 : decode cX8_takesAtom 98 = .ok (.ifCond .ne 15, 3) := by decide +kernel
theorem dX8_takesAtom_101 : decode cX8_takesAtom 101 = .ok (.aload_n 0, 1) := by decide +kernel
theorem dX8_takesAtom_102 : decode cX8_takesAtom 102 = .ok (.getfield 14, 3) := by decide +kernel
theorem dX8_takesAtom_105 : decode cX8_takesAtom 105 = .ok (.ldc 113, 2) := by decide +kernel
theorem dX8_takesAtom_107 : decode cX8_takesAtom 107 = .ok (.invokevirtual 71, 3) := by decide +kernel
theorem dX8_takesAtom_110 : decode cX8_takesAtom 110 = .ok (.ifCond .eq 38, 3) := by decide +kernel
theorem dX8_takesAtom_113 : decode cX8_takesAtom 113 = .ok (.aload_n 0, 1) := by decide +kernel
theorem dX8_takesAtom_114 : decode cX8_takesAtom 114 = .ok (.getfield 20, 3) := by decide +kernel
theorem dX8_takesAtom_117 : decode cX8_takesAtom 117 = .ok (.aload_n 0, 1) := by decide +kernel
theorem dX8_takesAtom_118 : decode cX8_takesAtom 118 = .ok (.getfield 14, 3) := by decide +kernel
theorem dX8_takesAtom_121 : decode cX8_takesAtom 121 = .ok (.ldc 111, 2) := by decide +kernel
theorem dX8_takesAtom_123 : decode cX8_takesAtom 123 = .ok (.invokevirtual 71, 3) := by decide +kernel
theorem dX8_takesAtom_126 : decode cX8_takesAtom 126 = .ok (.ifCond .eq 8, 3) := by decide +kernel
theorem dX8_takesAtom_129 : decode cX8_takesAtom 129 = .ok (.bipush 6, 2) := by decide +kernel
theorem dX8_takesAtom_131 : decode cX8_takesAtom 131 = .ok (.goto 5, 3) := by decide +kernel
theorem dX8_takesAtom_134 : decode cX8_takesAtom 134 = .ok (.bipush 7, 2) := by decide +kernel
theorem dX8_takesAtom_136 : decode cX8_takesAtom 136 = .ok (.invokevirtual 115, 3) := by decide +kernel
theorem dX8_takesAtom_139 : decode cX8_takesAtom 139 = .ok (.aload_n 0, 1) := by decide +kernel
theorem dX8_takesAtom_140 : decode cX8_takesAtom 140 = .ok (.getfield 14, 3) := by decide +kernel
theorem dX8_takesAtom_143 : decode cX8_takesAtom 143 = .ok (.invokevirtual 55, 3) := by decide +kernel
theorem dX8_takesAtom_146 : decode cX8_takesAtom 146 = .ok (.iconst 1, 1) := by decide +kernel
theorem dX8_takesAtom_147 : decode cX8_takesAtom 147 = .ok (.ireturn, 1) := by decide +kernel
theorem dX8_takesAtom_148 : decode cX8_takesAtom 148 = .ok (.aload_n 0, 1) := by decide +kernel
theorem dX8_takesAtom_149 : decode cX8_takesAtom 149 = .ok (.invokevirtual 118, 3) := by decide +kernel
theorem dX8_takesAtom_152 : decode cX8_takesAtom 152 = .ok (.ifCond .ne 5, 3) := by decide +kernel
theorem dX8_takesAtom_155 : decode cX8_takesAtom 155 = .ok (.iconst 0, 1) := by decide +kernel
theorem dX8_takesAtom_156 : decode cX8_takesAtom 156 = .ok (.ireturn, 1) := by decide +kernel
theorem dX8_takesAtom_157 : decode cX8_takesAtom 157 = .ok (.aload_n 0, 1) := by decide +kernel
theorem dX8_takesAtom_158 : decode cX8_takesAtom 158 = .ok (.getfield 14, 3) := by decide +kernel
theorem dX8_takesAtom_161 : decode cX8_takesAtom 161 = .ok (.bipush 60, 2) := by decide +kernel
theorem dX8_takesAtom_163 : decode cX8_takesAtom 163 = .ok (.invokevirtual 105, 3) := by decide +kernel
theorem dX8_takesAtom_166 : decode cX8_takesAtom 166 = .ok (.istore_n 3, 1) := by decide +kernel
theorem dX8_takesAtom_167 : decode cX8_takesAtom 167 = .ok (.aload_n 0, 1) := by decide +kernel
theorem dX8_takesAtom_168 : decode cX8_takesAtom 168 = .ok (.getfield 14, 3) := by decide +kernel
theorem dX8_takesAtom_171 : decode cX8_takesAtom 171 = .ok (.iload_n 3, 1) := by decide +kernel
theorem dX8_takesAtom_172 : decode cX8_takesAtom 172 = .ok (.ifCond .eq 8, 3) := by decide +kernel
theorem dX8_takesAtom_175 : decode cX8_takesAtom 175 = .ok (.bipush 60, 2) := by decide +kernel
theorem dX8_takesAtom_177 : decode cX8_takesAtom 177 = .ok (.goto 5, 3) := by decide +kernel
theorem dX8_takesAtom_180 : decode cX8_takesAtom 180 = .ok (.bipush 62, 2) := by decide +kernel
theorem dX8_takesAtom_182 : decode cX8_takesAtom 182 = .ok (.invokevirtual 44, 3) := by decide +kernel
theorem dX8_takesAtom_185 : decode cX8_takesAtom 185 = .ok (.ifCond .eq 10, 3) := by decide +kernel
theorem dX8_takesAtom_188 : decode cX8_takesAtom 188 = .ok (.aload_n 0, 1) := by decide +kernel
theorem dX8_takesAtom_189 : decode cX8_takesAtom 189 = .ok (.invokevirtual 118, 3) := by decide +kernel
theorem dX8_takesAtom_192 : decode cX8_takesAtom 192 = .ok (.ifCond .ne 5, 3) := by decide +kernel
theorem dX8_takesAtom_195 : decode cX8_takesAtom 195 = .ok (.iconst 0, 1) := by decide +kernel
theorem dX8_takesAtom_196 : decode cX8_takesAtom 196 = .ok (.ireturn, 1) := by decide +kernel
theorem dX8_takesAtom_197 : decode cX8_takesAtom 197 = .ok (.aload_n 0, 1) := by decide +kernel
theorem dX8_takesAtom_198 : decode cX8_takesAtom 198 = .ok (.getfield 20, 3) := by decide +kernel
theorem dX8_takesAtom_201 : decode cX8_takesAtom 201 = .ok (.iload_n 3, 1) := by decide +kernel
theorem dX8_takesAtom_202 : decode cX8_takesAtom 202 = .ok (.ifCond .eq 8, 3) := by decide +kernel
theorem dX8_takesAtom_205 : decode cX8_takesAtom 205 = .ok (.bipush (-10), 2) := by decide +kernel
theorem dX8_takesAtom_207 : decode cX8_takesAtom 207 = .ok (.goto 5, 3) := by decide +kernel
theorem dX8_takesAtom_210 : decode cX8_takesAtom 210 = .ok (.bipush (-11), 2) := by decide +kernel
theorem dX8_takesAtom_212 : decode cX8_takesAtom 212 = .ok (.invokevirtual 95, 3) := by decide +kernel
theorem dX8_takesAtom_215 : decode cX8_takesAtom 215 = .ok (.iconst 1, 1) := by decide +kernel
theorem dX8_takesAtom_216 : decode cX8_takesAtom 216 = .ok (.ireturn, 1) := by decide +kernel
theorem dX8_takesNot_0 : decode cX8_takesNot 0 = .ok (.aload_n 0, 1) := by decide +kernel
theorem dX8_takesNot_1 : decode cX8_takesNot 1 = .ok (.iload_n 1, 1) := by decide +kernel
theorem dX8_takesNot_2 : decode cX8_takesNot 2 = .ok (.invokevirtual 98, 3) := by decide +kernel
theorem dX8_takesNot_5 : decode cX8_takesNot 5 = .ok (.ifCond .ne 5, 3) := by decide +kernel
theorem dX8_takesNot_8 : decode cX8_takesNot 8 = .ok (.iconst 0, 1) := by decide +kernel
theorem dX8_takesNot_9 : decode cX8_takesNot 9 = .ok (.ireturn, 1) := by decide +kernel
theorem dX8_takesNot_10 : decode cX8_takesNot 10 = .ok (.aload_n 0, 1) := by decide +kernel
theorem dX8_takesNot_11 : decode cX8_takesNot 11 = .ok (.getfield 20, 3) := by decide +kernel
theorem dX8_takesNot_14 : decode cX8_takesNot 14 = .ok (.bipush (-12), 2) := by decide +kernel
theorem dX8_takesNot_16 : decode cX8_takesNot 16 = .ok (.invokevirtual 95, 3) := by decide +kernel
theorem dX8_takesNot_19 : decode cX8_takesNot 19 = .ok (.iconst 1, 1) := by decide +kernel
theorem dX8_takesNot_20 : decode cX8_takesNot 20 = .ok (.ireturn, 1) := by decide +kernel
theorem dX8_takesSum_0 : decode cX8_takesSum 0 = .ok (.iconst 0, 1) := by decide +kernel
theorem dX8_takesSum_1 : decode cX8_takesSum 1 = .ok (.istore_n 1, 1) := by decide +kernel
theorem dX8_takesSum_2 : decode cX8_takesSum 2 = .ok (.iload_n 1, 1) := by decide +kernel
theorem dX8_takesSum_3 : decode cX8_takesSum 3 = .ok (.sipush 400, 3) := by decide +kernel
theorem dX8_takesSum_6 : decode cX8_takesSum 6 = .ok (.if_icmp .ge 104, 3) := by decide +kernel
theorem dX8_takesSum_9 : decode cX8_takesSum 9 = .ok (.aload_n 0, 1) := by decide +kernel
theorem dX8_takesSum_10 : decode cX8_takesSum 10 = .ok (.invokevirtual 121, 3) := by decide +kernel
theorem dX8_takesSum_13 : decode cX8_takesSum 13 = .ok (.istore_n 2, 1) := by decide +kernel
theorem dX8_takesSum_14 : decode cX8_takesSum 14 = .ok (.iload_n 2, 1) := by decide +kernel
theorem dX8_takesSum_15 : decode cX8_takesSum 15 = .ok (.iconst (-1), 1) := by decide +kernel
theorem dX8_takesSum_16 : decode cX8_takesSum 16 = .ok (.if_icmp .eq 21, 3) := by decide +kernel
theorem dX8_takesSum_19 : decode cX8_takesSum 19 = .ok (.aload_n 0, 1) := by decide +kernel
theorem dX8_takesSum_20 : decode cX8_takesSum 20 = .ok (.getfield 20, 3) := by decide +kernel
theorem dX8_takesSum_23 : decode cX8_takesSum 23 = .ok (.iload_n 2, 1) := by decide +kernel
theorem dX8_takesSum_24 : decode cX8_takesSum 24 = .ok (.invokevirtual 115, 3) := by decide +kernel
theorem dX8_takesSum_27 : decode cX8_takesSum 27 = .ok (.aload_n 0, 1) := by decide +kernel
theorem dX8_takesSum_28 : decode cX8_takesSum 28 = .ok (.getfield 14, 3) := by decide +kernel
theorem dX8_takesSum_31 : decode cX8_takesSum 31 = .ok (.invokevirtual 55, 3) := by decide +kernel
theorem dX8_takesSum_34 : decode cX8_takesSum 34 = .ok (.goto 36, 3) := by decide +kernel
theorem dX8_takesSum_37 : decode cX8_takesSum 37 = .ok (.aload_n 0, 1) := by decide +kernel
theorem dX8_takesSum_38 : decode cX8_takesSum 38 = .ok (.getfield 14, 3) := by decide +kernel
theorem dX8_takesSum_41 : decode cX8_takesSum 41 = .ok (.iconst 0, 1) := by decide +kernel
theorem dX8_takesSum_42 : decode cX8_takesSum 42 = .ok (.sipush 999, 3) := by decide +kernel
theorem dX8_takesSum_45 : decode cX8_takesSum 45 = .ok (.invokevirtual 58, 3) := by decide +kernel
theorem dX8_takesSum_48 : decode cX8_takesSum 48 = .ok (.ifCond .eq 20, 3) := by decide +kernel
theorem dX8_takesSum_51 : decode cX8_takesSum 51 = .ok (.aload_n 0, 1) := by decide +kernel
theorem dX8_takesSum_52 : decode cX8_takesSum 52 = .ok (.getfield 20, 3) := by decide +kernel
theorem dX8_takesSum_55 : decode cX8_takesSum 55 = .ok (.aload_n 0, 1) := by decide +kernel
theorem dX8_takesSum_56 : decode cX8_takesSum 56 = .ok (.getfield 14, 3) := by decide +kernel
theorem dX8_takesSum_59 : decode cX8_takesSum 59 = .ok (.getfield 62, 3) := by decide +kernel
theorem dX8_takesSum_62 : decode cX8_takesSum 62 = .ok (.invokevirtual 95, 3) := by decide +kernel
theorem dX8_takesSum_65 : decode cX8_takesSum 65 = .ok (.goto 5, 3) := by decide +kernel
theorem dX8_takesSum_68 : decode cX8_takesSum 68 = .ok (.iconst 0, 1) := by decide +kernel
theorem dX8_takesSum_69 : decode cX8_takesSum 69 = .ok (.ireturn, 1) := by decide +kernel
theorem dX8_takesSum_70 : decode cX8_takesSum 70 = .ok (.iload_n 1, 1) := by decide +kernel
theorem dX8_takesSum_71 : decode cX8_takesSum 71 = .ok (.ifCond .le 12, 3) := by decide +kernel
theorem dX8_takesSum_74 : decode cX8_takesSum 74 = .ok (.aload_n 0, 1) := by decide +kernel
theorem dX8_takesSum_75 : decode cX8_takesSum 75 = .ok (.getfield 20, 3) := by decide +kernel
theorem dX8_takesSum_78 : decode cX8_takesSum 78 = .ok (.bipush (-9), 2) := by decide +kernel
theorem dX8_takesSum_80 : decode cX8_takesSum 80 = .ok (.invokevirtual 95, 3) := by decide +kernel
theorem dX8_takesSum_83 : decode cX8_takesSum 83 = .ok (.aload_n 0, 1) := by decide +kernel
theorem dX8_takesSum_84 : decode cX8_takesSum 84 = .ok (.getfield 14, 3) := by decide +kernel
theorem dX8_takesSum_87 : decode cX8_takesSum 87 = .ok (.bipush 43, 2) := by decide +kernel
theorem dX8_takesSum_89 : decode cX8_takesSum 89 = .ok (.invokevirtual 105, 3) := by decide +kernel
theorem dX8_takesSum_92 : decode cX8_takesSum 92 = .ok (.ifCond .ne 5, 3) := by decide +kernel
theorem dX8_takesSum_95 : decode cX8_takesSum 95 = .ok (.iconst 1, 1) := by decide +kernel
theorem dX8_takesSum_96 : decode cX8_takesSum 96 = .ok (.ireturn, 1) := by decide +kernel
theorem dX8_takesSum_97 : decode cX8_takesSum 97 = .ok (.aload_n 0, 1) := by decide +kernel
theorem dX8_takesSum_98 : decode cX8_takesSum 98 = .ok (.getfield 14, 3) := by decide +kernel
theorem dX8_takesSum_101 : decode cX8_takesSum 101 = .ok (.invokevirtual 55, 3) := by decide +kernel
theorem dX8_takesSum_104 : decode cX8_takesSum 104 = .ok (.iinc 1 1, 3) := by decide +kernel
theorem dX8_takesSum_107 : decode cX8_takesSum 107 = .ok (.goto (-105), 3) := by decide +kernel
theorem dX8_takesSum_110 : decode cX8_takesSum 110 = .ok (.aload_n 0, 1) := by decide +kernel
theorem dX8_takesSum_111 : decode cX8_takesSum 111 = .ok (.getfield 14, 3) := by decide +kernel
theorem dX8_takesSum_114 : decode cX8_takesSum 114 = .ok (.invokevirtual 41, 3) := by decide +kernel
theorem dX8_takesSum_117 : decode cX8_takesSum 117 = .ok (.ireturn, 1) := by decide +kernel
theorem dX8_factSeen_0 : decode cX8_factSeen 0 = .ok (.aload_n 0, 1) := by decide +kernel
theorem dX8_factSeen_1 : decode cX8_factSeen 1 = .ok (.getfield 14, 3) := by decide +kernel
theorem dX8_factSeen_4 : decode cX8_factSeen 4 = .ok (.ldc 124, 2) := by decide +kernel
theorem dX8_factSeen_6 : decode cX8_factSeen 6 = .ok (.invokevirtual 71, 3) := by decide +kernel
theorem dX8_factSeen_9 : decode cX8_factSeen 9 = .ok (.ifCond .eq 5, 3) := by decide +kernel
theorem dX8_factSeen_12 : decode cX8_factSeen 12 = .ok (.iconst 0, 1) := by decide +kernel
theorem dX8_factSeen_13 : decode cX8_factSeen 13 = .ok (.ireturn, 1) := by decide +kernel
theorem dX8_factSeen_14 : decode cX8_factSeen 14 = .ok (.aload_n 0, 1) := by decide +kernel
theorem dX8_factSeen_15 : decode cX8_factSeen 15 = .ok (.getfield 14, 3) := by decide +kernel
theorem dX8_factSeen_18 : decode cX8_factSeen 18 = .ok (.ldc 126, 2) := by decide +kernel
theorem dX8_factSeen_20 : decode cX8_factSeen 20 = .ok (.invokevirtual 71, 3) := by decide +kernel
theorem dX8_factSeen_23 : decode cX8_factSeen 23 = .ok (.ifCond .eq 5, 3) := by decide +kernel
theorem dX8_factSeen_26 : decode cX8_factSeen 26 = .ok (.iconst 1, 1) := by decide +kernel
theorem dX8_factSeen_27 : decode cX8_factSeen 27 = .ok (.ireturn, 1) := by decide +kernel
theorem dX8_factSeen_28 : decode cX8_factSeen 28 = .ok (.aload_n 0, 1) := by decide +kernel
theorem dX8_factSeen_29 : decode cX8_factSeen 29 = .ok (.getfield 14, 3) := by decide +kernel
theorem dX8_factSeen_32 : decode cX8_factSeen 32 = .ok (.ldc 128, 2) := by decide +kernel
theorem dX8_factSeen_34 : decode cX8_factSeen 34 = .ok (.invokevirtual 71, 3) := by decide +kernel
theorem dX8_factSeen_37 : decode cX8_factSeen 37 = .ok (.ifCond .eq 5, 3) := by decide +kernel
theorem dX8_factSeen_40 : decode cX8_factSeen 40 = .ok (.iconst 2, 1) := by decide +kernel
theorem dX8_factSeen_41 : decode cX8_factSeen 41 = .ok (.ireturn, 1) := by decide +kernel
theorem dX8_factSeen_42 : decode cX8_factSeen 42 = .ok (.aload_n 0, 1) := by decide +kernel
theorem dX8_factSeen_43 : decode cX8_factSeen 43 = .ok (.getfield 14, 3) := by decide +kernel
theorem dX8_factSeen_46 : decode cX8_factSeen 46 = .ok (.ldc 130, 2) := by decide +kernel
theorem dX8_factSeen_48 : decode cX8_factSeen 48 = .ok (.invokevirtual 71, 3) := by decide +kernel
theorem dX8_factSeen_51 : decode cX8_factSeen 51 = .ok (.ifCond .eq 5, 3) := by decide +kernel
theorem dX8_factSeen_54 : decode cX8_factSeen 54 = .ok (.iconst 3, 1) := by decide +kernel
theorem dX8_factSeen_55 : decode cX8_factSeen 55 = .ok (.ireturn, 1) := by decide +kernel
theorem dX8_factSeen_56 : decode cX8_factSeen 56 = .ok (.aload_n 0, 1) := by decide +kernel
theorem dX8_factSeen_57 : decode cX8_factSeen 57 = .ok (.getfield 14, 3) := by decide +kernel
theorem dX8_factSeen_60 : decode cX8_factSeen 60 = .ok (.ldc 132, 2) := by decide +kernel
theorem dX8_factSeen_62 : decode cX8_factSeen 62 = .ok (.invokevirtual 71, 3) := by decide +kernel
theorem dX8_factSeen_65 : decode cX8_factSeen 65 = .ok (.ifCond .eq 5, 3) := by decide +kernel
theorem dX8_factSeen_68 : decode cX8_factSeen 68 = .ok (.iconst 4, 1) := by decide +kernel
theorem dX8_factSeen_69 : decode cX8_factSeen 69 = .ok (.ireturn, 1) := by decide +kernel
theorem dX8_factSeen_70 : decode cX8_factSeen 70 = .ok (.aload_n 0, 1) := by decide +kernel
theorem dX8_factSeen_71 : decode cX8_factSeen 71 = .ok (.getfield 14, 3) := by decide +kernel
theorem dX8_factSeen_74 : decode cX8_factSeen 74 = .ok (.ldc 134, 2) := by decide +kernel
theorem dX8_factSeen_76 : decode cX8_factSeen 76 = .ok (.invokevirtual 71, 3) := by decide +kernel
theorem dX8_factSeen_79 : decode cX8_factSeen 79 = .ok (.ifCond .eq 7, 3) := by decide +kernel
theorem dX8_factSeen_82 : decode cX8_factSeen 82 = .ok (.iconst 5, 1) := by decide +kernel
theorem dX8_factSeen_83 : decode cX8_factSeen 83 = .ok (.goto 4, 3) := by decide +kernel
theorem dX8_factSeen_86 : decode cX8_factSeen 86 = .ok (.iconst (-1), 1) := by decide +kernel
theorem dX8_factSeen_87 : decode cX8_factSeen 87 = .ok (.ireturn, 1) := by decide +kernel
theorem dX9_init_0 : decode cX9_init 0 = .ok (.aload_n 0, 1) := by decide +kernel
theorem dX9_init_1 : decode cX9_init 1 = .ok (.invokespecial 3, 3) := by decide +kernel
theorem dX9_init_4 : decode cX9_init 4 = .ok (.aload_n 0, 1) := by decide +kernel
theorem dX9_init_5 : decode cX9_init 5 = .ok (.iconst 0, 1) := by decide +kernel
theorem dX9_init_6 : decode cX9_init 6 = .ok (.putfield 9, 3) := by decide +kernel
theorem dX9_init_9 : decode cX9_init 9 = .ok (.aload_n 0, 1) := by decide +kernel
theorem dX9_init_10 : decode cX9_init 10 = .ok (.iconst 0, 1) := by decide +kernel
theorem dX9_init_11 : decode cX9_init 11 = .ok (.putfield 15, 3) := by decide +kernel
theorem dX9_init_14 : decode cX9_init 14 = .ok (.aload_n 0, 1) := by decide +kernel
theorem dX9_init_15 : decode cX9_init 15 = .ok (.iconst 0, 1) := by decide +kernel
theorem dX9_init_16 : decode cX9_init 16 = .ok (.putfield 18, 3) := by decide +kernel
theorem dX9_init_19 : decode cX9_init 19 = .ok (.aload_n 0, 1) := by decide +kernel
theorem dX9_init_20 : decode cX9_init 20 = .ok (.iconst 0, 1) := by decide +kernel
theorem dX9_init_21 : decode cX9_init 21 = .ok (.putfield 21, 3) := by decide +kernel
theorem dX9_init_24 : decode cX9_init 24 = .ok (.aload_n 0, 1) := by decide +kernel
theorem dX9_init_25 : decode cX9_init 25 = .ok (.iconst 0, 1) := by decide +kernel
theorem dX9_init_26 : decode cX9_init 26 = .ok (.putfield 24, 3) := by decide +kernel
theorem dX9_init_29 : decode cX9_init 29 = .ok (.aload_n 0, 1) := by decide +kernel
theorem dX9_init_30 : decode cX9_init 30 = .ok (.iconst (-1), 1) := by decide +kernel
theorem dX9_init_31 : decode cX9_init 31 = .ok (.putfield 27, 3) := by decide +kernel
theorem dX9_init_34 : decode cX9_init 34 = .ok (.aload_n 0, 1) := by decide +kernel
theorem dX9_init_35 : decode cX9_init 35 = .ok (.aload_n 1, 1) := by decide +kernel
theorem dX9_init_36 : decode cX9_init 36 = .ok (.putfield 30, 3) := by decide +kernel
theorem dX9_init_39 : decode cX9_init 39 = .ok (.return_, 1) := by decide +kernel
theorem dX9_open_0 : decode cX9_open 0 = .ok (.aload_n 0, 1) := by decide +kernel
theorem dX9_open_1 : decode cX9_open 1 = .ok (.iconst 0, 1) := by decide +kernel
theorem dX9_open_2 : decode cX9_open 2 = .ok (.iload_n 1, 1) := by decide +kernel
theorem dX9_open_3 : decode cX9_open 3 = .ok (.aload_n 0, 1) := by decide +kernel
theorem dX9_open_4 : decode cX9_open 4 = .ok (.getfield 30, 3) := by decide +kernel
theorem dX9_open_7 : decode cX9_open 7 = .ok (.arraylength, 1) := by decide +kernel
theorem dX9_open_8 : decode cX9_open 8 = .ok (.invokestatic 34, 3) := by decide +kernel
theorem dX9_open_11 : decode cX9_open 11 = .ok (.invokestatic 40, 3) := by decide +kernel
theorem dX9_open_14 : decode cX9_open 14 = .ok (.putfield 9, 3) := by decide +kernel
theorem dX9_open_17 : decode cX9_open 17 = .ok (.aload_n 0, 1) := by decide +kernel
theorem dX9_open_18 : decode cX9_open 18 = .ok (.iconst 0, 1) := by decide +kernel
theorem dX9_open_19 : decode cX9_open 19 = .ok (.putfield 21, 3) := by decide +kernel
theorem dX9_open_22 : decode cX9_open 22 = .ok (.aload_n 0, 1) := by decide +kernel
theorem dX9_open_23 : decode cX9_open 23 = .ok (.iconst (-1), 1) := by decide +kernel
theorem dX9_open_24 : decode cX9_open 24 = .ok (.putfield 27, 3) := by decide +kernel
theorem dX9_open_27 : decode cX9_open 27 = .ok (.aload_n 0, 1) := by decide +kernel
theorem dX9_open_28 : decode cX9_open 28 = .ok (.invokevirtual 43, 3) := by decide +kernel
theorem dX9_open_31 : decode cX9_open 31 = .ok (.return_, 1) := by decide +kernel
theorem dX9_step_0 : decode cX9_step 0 = .ok (.aload_n 0, 1) := by decide +kernel
theorem dX9_step_1 : decode cX9_step 1 = .ok (.aload_n 0, 1) := by decide +kernel
theorem dX9_step_2 : decode cX9_step 2 = .ok (.getfield 21, 3) := by decide +kernel
theorem dX9_step_5 : decode cX9_step 5 = .ok (.putfield 18, 3) := by decide +kernel
theorem dX9_step_8 : decode cX9_step 8 = .ok (.aload_n 0, 1) := by decide +kernel
theorem dX9_step_9 : decode cX9_step 9 = .ok (.getfield 18, 3) := by decide +kernel
theorem dX9_step_12 : decode cX9_step 12 = .ok (.aload_n 0, 1) := by decide +kernel
theorem dX9_step_13 : decode cX9_step 13 = .ok (.getfield 9, 3) := by decide +kernel
theorem dX9_step_16 : decode cX9_step 16 = .ok (.if_icmp .ge 30, 3) := by decide +kernel
theorem dX9_step_19 : decode cX9_step 19 = .ok (.aload_n 0, 1) := by decide +kernel
theorem dX9_step_20 : decode cX9_step 20 = .ok (.getfield 30, 3) := by decide +kernel
theorem dX9_step_23 : decode cX9_step 23 = .ok (.aload_n 0, 1) := by decide +kernel
theorem dX9_step_24 : decode cX9_step 24 = .ok (.getfield 18, 3) := by decide +kernel
theorem dX9_step_27 : decode cX9_step 27 = .ok (.iaload, 1) := by decide +kernel
theorem dX9_step_28 : decode cX9_step 28 = .ok (.bipush 32, 2) := by decide +kernel
theorem dX9_step_30 : decode cX9_step 30 = .ok (.if_icmp .ne 16, 3) := by decide +kernel
theorem dX9_step_33 : decode cX9_step 33 = .ok (.aload_n 0, 1) := by decide +kernel
theorem dX9_step_34 : decode cX9_step 34 = .ok (.dup, 1) := by decide +kernel
theorem dX9_step_35 : decode cX9_step 35 = .ok (.getfield 18, 3) := by decide +kernel
theorem dX9_step_38 : decode cX9_step 38 = .ok (.iconst 1, 1) := by decide +kernel
theorem dX9_step_39 : decode cX9_step 39 = .ok (.iadd, 1) := by decide +kernel
theorem dX9_step_40 : decode cX9_step 40 = .ok (.putfield 18, 3) := by decide +kernel
theorem dX9_step_43 : decode cX9_step 43 = .ok (.goto (-35), 3) := by decide +kernel
theorem dX9_step_46 : decode cX9_step 46 = .ok (.aload_n 0, 1) := by decide +kernel
theorem dX9_step_47 : decode cX9_step 47 = .ok (.aload_n 0, 1) := by decide +kernel
theorem dX9_step_48 : decode cX9_step 48 = .ok (.getfield 18, 3) := by decide +kernel
theorem dX9_step_51 : decode cX9_step 51 = .ok (.putfield 21, 3) := by decide +kernel
theorem dX9_step_54 : decode cX9_step 54 = .ok (.aload_n 0, 1) := by decide +kernel
theorem dX9_step_55 : decode cX9_step 55 = .ok (.aload_n 0, 1) := by decide +kernel
theorem dX9_step_56 : decode cX9_step 56 = .ok (.aload_n 0, 1) := by decide +kernel
theorem dX9_step_57 : decode cX9_step 57 = .ok (.getfield 18, 3) := by decide +kernel
theorem dX9_step_60 : decode cX9_step 60 = .ok (.invokevirtual 46, 3) := by decide +kernel
theorem dX9_step_63 : decode cX9_step 63 = .ok (.putfield 15, 3) := by decide +kernel
theorem dX9_step_66 : decode cX9_step 66 = .ok (.aload_n 0, 1) := by decide +kernel
theorem dX9_step_67 : decode cX9_step 67 = .ok (.getfield 15, 3) := by decide +kernel
theorem dX9_step_70 : decode cX9_step 70 = .ok (.iconst 3, 1) := by decide +kernel
theorem dX9_step_71 : decode cX9_step 71 = .ok (.if_icmp .ne 16, 3) := by decide +kernel
theorem dX9_step_74 : decode cX9_step 74 = .ok (.aload_n 0, 1) := by decide +kernel
theorem dX9_step_75 : decode cX9_step 75 = .ok (.dup, 1) := by decide +kernel
theorem dX9_step_76 : decode cX9_step 76 = .ok (.getfield 21, 3) := by decide +kernel
theorem dX9_step_79 : decode cX9_step 79 = .ok (.iconst 1, 1) := by decide +kernel
theorem dX9_step_80 : decode cX9_step 80 = .ok (.iadd, 1) := by decide +kernel
theorem dX9_step_81 : decode cX9_step 81 = .ok (.putfield 21, 3) := by decide +kernel
theorem dX9_step_84 : decode cX9_step 84 = .ok (.goto 49, 3) := by decide +kernel
theorem dX9_step_87 : decode cX9_step 87 = .ok (.aload_n 0, 1) := by decide +kernel
theorem dX9_step_88 : decode cX9_step 88 = .ok (.getfield 15, 3) := by decide +kernel
theorem dX9_step_91 : decode cX9_step 91 = .ok (.ifCond .eq 42, 3) := by decide +kernel
theorem dX9_step_94 : decode cX9_step 94 = .ok (.aload_n 0, 1) := by decide +kernel
theorem dX9_step_95 : decode cX9_step 95 = .ok (.getfield 21, 3) := by decide +kernel
theorem dX9_step_98 : decode cX9_step 98 = .ok (.aload_n 0, 1) := by decide +kernel
theorem dX9_step_99 : decode cX9_step 99 = .ok (.getfield 9, 3) := by decide +kernel
theorem dX9_step_102 : decode cX9_step 102 = .ok (.if_icmp .ge 31, 3) := by decide +kernel
theorem dX9_step_105 : decode cX9_step 105 = .ok (.aload_n 0, 1) := by decide +kernel
theorem dX9_step_106 : decode cX9_step 106 = .ok (.aload_n 0, 1) := by decide +kernel
theorem dX9_step_107 : decode cX9_step 107 = .ok (.getfield 21, 3) := by decide +kernel
theorem dX9_step_110 : decode cX9_step 110 = .ok (.invokevirtual 46, 3) := by decide +kernel
theorem dX9_step_113 : decode cX9_step 113 = .ok (.aload_n 0, 1) := by decide +kernel
theorem dX9_step_114 : decode cX9_step 114 = .ok (.getfield 15, 3) := by decide +kernel
theorem dX9_step_117 : decode cX9_step 117 = .ok (.if_icmp .ne 16, 3) := by decide +kernel
theorem dX9_step_120 : decode cX9_step 120 = .ok (.aload_n 0, 1) := by decide +kernel
theorem dX9_step_121 : decode cX9_step 121 = .ok (.dup, 1) := by decide +kernel
theorem dX9_step_122 : decode cX9_step 122 = .ok (.getfield 21, 3) := by decide +kernel
theorem dX9_step_125 : decode cX9_step 125 = .ok (.iconst 1, 1) := by decide +kernel
theorem dX9_step_126 : decode cX9_step 126 = .ok (.iadd, 1) := by decide +kernel
theorem dX9_step_127 : decode cX9_step 127 = .ok (.putfield 21, 3) := by decide +kernel
theorem dX9_step_130 : decode cX9_step 130 = .ok (.goto (-36), 3) := by decide +kernel
theorem dX9_step_133 : decode cX9_step 133 = .ok (.return_, 1) := by decide +kernel
theorem dX9_kindAt_0 : decode cX9_kindAt 0 = .ok (.iload_n 1, 1) := by decide +kernel
theorem dX9_kindAt_1 : decode cX9_kindAt 1 = .ok (.aload_n 0, 1) := by decide +kernel
theorem dX9_kindAt_2 : decode cX9_kindAt 2 = .ok (.getfield 9, 3) := by decide +kernel
theorem dX9_kindAt_5 : decode cX9_kindAt 5 = .ok (.if_icmp .lt 5, 3) := by decide +kernel
theorem dX9_kindAt_8 : decode cX9_kindAt 8 = .ok (.iconst 0, 1) := by decide +kernel
theorem dX9_kindAt_9 : decode cX9_kindAt 9 = .ok (.ireturn, 1) := by decide +kernel
theorem dX9_kindAt_10 : decode cX9_kindAt 10 = .ok (.aload_n 0, 1) := by decide +kernel
theorem dX9_kindAt_11 : decode cX9_kindAt 11 = .ok (.getfield 30, 3) := by decide +kernel
theorem dX9_kindAt_14 : decode cX9_kindAt 14 = .ok (.iload_n 1, 1) := by decide +kernel
theorem dX9_kindAt_15 : decode cX9_kindAt 15 = .ok (.iaload, 1) := by decide +kernel
theorem dX9_kindAt_16 : decode cX9_kindAt 16 = .ok (.bipush 97, 2) := by decide +kernel
theorem dX9_kindAt_18 : decode cX9_kindAt 18 = .ok (.if_icmp .lt 16, 3) := by decide +kernel
theorem dX9_kindAt_21 : decode cX9_kindAt 21 = .ok (.aload_n 0, 1) := by decide +kernel
theorem dX9_kindAt_22 : decode cX9_kindAt 22 = .ok (.getfield 30, 3) := by decide +kernel
theorem dX9_kindAt_25 : decode cX9_kindAt 25 = .ok (.iload_n 1, 1) := by decide +kernel
theorem dX9_kindAt_26 : decode cX9_kindAt 26 = .ok (.iaload, 1) := by decide +kernel
theorem dX9_kindAt_27 : decode cX9_kindAt 27 = .ok (.bipush 122, 2) := by decide +kernel
theorem dX9_kindAt_29 : decode cX9_kindAt 29 = .ok (.if_icmp .gt 5, 3) := by decide +kernel
theorem dX9_kindAt_32 : decode cX9_kindAt 32 = .ok (.iconst 1, 1) := by decide +kernel
theorem dX9_kindAt_33 : decode cX9_kindAt 33 = .ok (.ireturn, 1) := by decide +kernel
