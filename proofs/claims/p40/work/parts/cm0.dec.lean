/-! The law, decoded, 0 -/
theorem dL_law_0 : decode code 0 = .ok (.new 19, 3) := by decide +kernel
theorem dL_law_3 : decode code 3 = .ok (.dup, 1) := by decide +kernel
theorem dL_law_4 : decode code 4 = .ok (.invokespecial 28, 3) := by decide +kernel
theorem dL_law_7 : decode code 7 = .ok (.astore_n 1, 1) := by decide +kernel
theorem dL_law_8 : decode code 8 = .ok (.aload_n 0, 1) := by decide +kernel
theorem dL_law_9 : decode code 9 = .ok (.iconst 0, 1) := by decide +kernel
theorem dL_law_10 : decode code 10 = .ok (.invokestatic 29, 3) := by decide +kernel
theorem dL_law_13 : decode code 13 = .ok (.iconst 3, 1) := by decide +kernel
theorem dL_law_14 : decode code 14 = .ok (.invokestatic 35, 3) := by decide +kernel
theorem dL_law_17 : decode code 17 = .ok (.istore_n 2, 1) := by decide +kernel
theorem dL_law_18 : decode code 18 = .ok (.aload_n 0, 1) := by decide +kernel
theorem dL_law_19 : decode code 19 = .ok (.iconst 1, 1) := by decide +kernel
theorem dL_law_20 : decode code 20 = .ok (.invokestatic 29, 3) := by decide +kernel
theorem dL_law_23 : decode code 23 = .ok (.iconst 3, 1) := by decide +kernel
theorem dL_law_24 : decode code 24 = .ok (.invokestatic 35, 3) := by decide +kernel
theorem dL_law_27 : decode code 27 = .ok (.istore_n 3, 1) := by decide +kernel
theorem dL_law_28 : decode code 28 = .ok (.iconst 1, 1) := by decide +kernel
theorem dL_law_29 : decode code 29 = .ok (.aload_n 0, 1) := by decide +kernel
theorem dL_law_30 : decode code 30 = .ok (.iconst 2, 1) := by decide +kernel
theorem dL_law_31 : decode code 31 = .ok (.invokestatic 29, 3) := by decide +kernel
theorem dL_law_34 : decode code 34 = .ok (.iconst 4, 1) := by decide +kernel
theorem dL_law_35 : decode code 35 = .ok (.invokestatic 35, 3) := by decide +kernel
theorem dL_law_38 : decode code 38 = .ok (.iadd, 1) := by decide +kernel
theorem dL_law_39 : decode code 39 = .ok (.istore 4, 2) := by decide +kernel
theorem dL_law_41 : decode code 41 = .ok (.iload 4, 2) := by decide +kernel
theorem dL_law_43 : decode code 43 = .ok (.iconst 1, 1) := by decide +kernel
theorem dL_law_44 : decode code 44 = .ok (.iadd, 1) := by decide +kernel
theorem dL_law_45 : decode code 45 = .ok (.aload_n 0, 1) := by decide +kernel
theorem dL_law_46 : decode code 46 = .ok (.iconst 3, 1) := by decide +kernel
theorem dL_law_47 : decode code 47 = .ok (.invokestatic 29, 3) := by decide +kernel
theorem dL_law_50 : decode code 50 = .ok (.iconst 4, 1) := by decide +kernel
theorem dL_law_51 : decode code 51 = .ok (.invokestatic 35, 3) := by decide +kernel
theorem dL_law_54 : decode code 54 = .ok (.iadd, 1) := by decide +kernel
theorem dL_law_55 : decode code 55 = .ok (.istore 5, 2) := by decide +kernel
theorem dL_law_57 : decode code 57 = .ok (.ldc 39, 2) := by decide +kernel
theorem dL_law_59 : decode code 59 = .ok (.astore 6, 2) := by decide +kernel
theorem dL_law_61 : decode code 61 = .ok (.aload_n 1, 1) := by decide +kernel
theorem dL_law_62 : decode code 62 = .ok (.aload 6, 2) := by decide +kernel
theorem dL_law_64 : decode code 64 = .ok (.invokestatic 41, 3) := by decide +kernel
theorem dL_law_67 : decode code 67 = .ok (.bipush 7, 2) := by decide +kernel
theorem dL_law_69 : decode code 69 = .ok (.if_icmp .ne 94, 3) := by decide +kernel
theorem dL_law_72 : decode code 72 = .ok (.aload_n 1, 1) := by decide +kernel
theorem dL_law_73 : decode code 73 = .ok (.iconst 3, 1) := by decide +kernel
theorem dL_law_74 : decode code 74 = .ok (.invokevirtual 44, 3) := by decide +kernel
theorem dL_law_77 : decode code 77 = .ok (.bipush 7, 2) := by decide +kernel
theorem dL_law_79 : decode code 79 = .ok (.if_icmp .ne 84, 3) := by decide +kernel
theorem dL_law_82 : decode code 82 = .ok (.aload_n 1, 1) := by decide +kernel
theorem dL_law_83 : decode code 83 = .ok (.invokevirtual 47, 3) := by decide +kernel
theorem dL_law_86 : decode code 86 = .ok (.iconst 4, 1) := by decide +kernel
theorem dL_law_87 : decode code 87 = .ok (.if_icmp .ne 76, 3) := by decide +kernel
theorem dL_law_90 : decode code 90 = .ok (.aload_n 1, 1) := by decide +kernel
theorem dL_law_91 : decode code 91 = .ok (.iconst 5, 1) := by decide +kernel
theorem dL_law_92 : decode code 92 = .ok (.iconst 0, 1) := by decide +kernel
theorem dL_law_93 : decode code 93 = .ok (.invokevirtual 50, 3) := by decide +kernel
theorem dL_law_96 : decode code 96 = .ok (.sipush 1003, 3) := by decide +kernel
theorem dL_law_99 : decode code 99 = .ok (.if_icmp .ne 64, 3) := by decide +kernel
theorem dL_law_102 : decode code 102 = .ok (.aload_n 1, 1) := by decide +kernel
theorem dL_law_103 : decode code 103 = .ok (.iconst 0, 1) := by decide +kernel
theorem dL_law_104 : decode code 104 = .ok (.iconst 0, 1) := by decide +kernel
theorem dL_law_105 : decode code 105 = .ok (.invokevirtual 53, 3) := by decide +kernel
theorem dL_law_108 : decode code 108 = .ok (.iconst 5, 1) := by decide +kernel
theorem dL_law_109 : decode code 109 = .ok (.if_icmp .ne 54, 3) := by decide +kernel
theorem dL_law_112 : decode code 112 = .ok (.aload_n 1, 1) := by decide +kernel
theorem dL_law_113 : decode code 113 = .ok (.iconst 0, 1) := by decide +kernel
theorem dL_law_114 : decode code 114 = .ok (.iconst 1, 1) := by decide +kernel
theorem dL_law_115 : decode code 115 = .ok (.invokevirtual 53, 3) := by decide +kernel
theorem dL_law_118 : decode code 118 = .ok (.ifCond .ne 45, 3) := by decide +kernel
theorem dL_law_121 : decode code 121 = .ok (.aload_n 1, 1) := by decide +kernel
theorem dL_law_122 : decode code 122 = .ok (.iconst 0, 1) := by decide +kernel
theorem dL_law_123 : decode code 123 = .ok (.iconst 2, 1) := by decide +kernel
theorem dL_law_124 : decode code 124 = .ok (.invokevirtual 53, 3) := by decide +kernel
theorem dL_law_127 : decode code 127 = .ok (.sipush 1003, 3) := by decide +kernel
theorem dL_law_130 : decode code 130 = .ok (.if_icmp .ne 33, 3) := by decide +kernel
theorem dL_law_133 : decode code 133 = .ok (.aload_n 1, 1) := by decide +kernel
theorem dL_law_134 : decode code 134 = .ok (.iconst 0, 1) := by decide +kernel
theorem dL_law_135 : decode code 135 = .ok (.iconst 3, 1) := by decide +kernel
theorem dL_law_136 : decode code 136 = .ok (.invokevirtual 53, 3) := by decide +kernel
theorem dL_law_139 : decode code 139 = .ok (.ifCond .ne 24, 3) := by decide +kernel
theorem dL_law_142 : decode code 142 = .ok (.aload_n 1, 1) := by decide +kernel
theorem dL_law_143 : decode code 143 = .ok (.iconst 3, 1) := by decide +kernel
theorem dL_law_144 : decode code 144 = .ok (.iconst 0, 1) := by decide +kernel
theorem dL_law_145 : decode code 145 = .ok (.invokevirtual 53, 3) := by decide +kernel
theorem dL_law_148 : decode code 148 = .ok (.bipush 6, 2) := by decide +kernel
theorem dL_law_150 : decode code 150 = .ok (.if_icmp .ne 13, 3) := by decide +kernel
theorem dL_law_153 : decode code 153 = .ok (.aload_n 1, 1) := by decide +kernel
theorem dL_law_154 : decode code 154 = .ok (.iconst 3, 1) := by decide +kernel
theorem dL_law_155 : decode code 155 = .ok (.iconst 3, 1) := by decide +kernel
theorem dL_law_156 : decode code 156 = .ok (.invokevirtual 53, 3) := by decide +kernel
theorem dL_law_159 : decode code 159 = .ok (.iconst 1, 1) := by decide +kernel
theorem dL_law_160 : decode code 160 = .ok (.if_icmp .eq 5, 3) := by decide +kernel
theorem dL_law_163 : decode code 163 = .ok (.iconst 0, 1) := by decide +kernel
theorem dL_law_164 : decode code 164 = .ok (.ireturn, 1) := by decide +kernel
theorem dL_law_165 : decode code 165 = .ok (.aload_n 1, 1) := by decide +kernel
theorem dL_law_166 : decode code 166 = .ok (.new 56, 3) := by decide +kernel
theorem dL_law_169 : decode code 169 = .ok (.dup, 1) := by decide +kernel
theorem dL_law_170 : decode code 170 = .ok (.invokespecial 58, 3) := by decide +kernel
theorem dL_law_173 : decode code 173 = .ok (.aload 6, 2) := by decide +kernel
theorem dL_law_175 : decode code 175 = .ok (.invokevirtual 59, 3) := by decide +kernel
theorem dL_law_178 : decode code 178 = .ok (.ldc 63, 2) := by decide +kernel
theorem dL_law_180 : decode code 180 = .ok (.invokevirtual 59, 3) := by decide +kernel
