theorem dX8_takesTest_76 : decode cX8_takesTest 76 = .ok (.iadd, 1) := by decide +kernel
theorem dX8_takesTest_77 : decode cX8_takesTest 77 = .ok (.aload_n 0, 1) := by decide +kernel
theorem dX8_takesTest_78 : decode cX8_takesTest 78 = .ok (.getfield 51, 3) := by decide +kernel
theorem dX8_takesTest_81 : decode cX8_takesTest 81 = .ok (.iadd, 1) := by decide +kernel
theorem dX8_takesTest_82 : decode cX8_takesTest 82 = .ok (.invokevirtual 174, 3) := by decide +kernel
theorem dX8_takesTest_85 : decode cX8_takesTest 85 = .ok (.aload_n 0, 1) := by decide +kernel
theorem dX8_takesTest_86 : decode cX8_takesTest 86 = .ok (.invokevirtual 185, 3) := by decide +kernel
theorem dX8_takesTest_89 : decode cX8_takesTest 89 = .ok (.iconst 1, 1) := by decide +kernel
theorem dX8_takesTest_90 : decode cX8_takesTest 90 = .ok (.ireturn, 1) := by decide +kernel
theorem dX8_takesE_0 : decode cX8_takesE 0 = .ok (.aload_n 0, 1) := by decide +kernel
theorem dX8_takesE_1 : decode cX8_takesE 1 = .ok (.iconst 0, 1) := by decide +kernel
theorem dX8_takesE_2 : decode cX8_takesE 2 = .ok (.putfield 84, 3) := by decide +kernel
theorem dX8_takesE_5 : decode cX8_takesE 5 = .ok (.aload_n 0, 1) := by decide +kernel
theorem dX8_takesE_6 : decode cX8_takesE 6 = .ok (.iconst 0, 1) := by decide +kernel
theorem dX8_takesE_7 : decode cX8_takesE 7 = .ok (.putfield 87, 3) := by decide +kernel
theorem dX8_takesE_10 : decode cX8_takesE 10 = .ok (.aload_n 0, 1) := by decide +kernel
theorem dX8_takesE_11 : decode cX8_takesE 11 = .ok (.getfield 69, 3) := by decide +kernel
theorem dX8_takesE_14 : decode cX8_takesE 14 = .ok (.iload_n 1, 1) := by decide +kernel
theorem dX8_takesE_15 : decode cX8_takesE 15 = .ok (.aload_n 0, 1) := by decide +kernel
theorem dX8_takesE_16 : decode cX8_takesE 16 = .ok (.getfield 81, 3) := by decide +kernel
theorem dX8_takesE_19 : decode cX8_takesE 19 = .ok (.iastore, 1) := by decide +kernel
theorem dX8_takesE_20 : decode cX8_takesE 20 = .ok (.iconst 1, 1) := by decide +kernel
theorem dX8_takesE_21 : decode cX8_takesE 21 = .ok (.istore_n 2, 1) := by decide +kernel
theorem dX8_takesE_22 : decode cX8_takesE 22 = .ok (.aload_n 0, 1) := by decide +kernel
theorem dX8_takesE_23 : decode cX8_takesE 23 = .ok (.invokevirtual 163, 3) := by decide +kernel
theorem dX8_takesE_26 : decode cX8_takesE 26 = .ok (.istore_n 3, 1) := by decide +kernel
theorem dX8_takesE_27 : decode cX8_takesE 27 = .ok (.iload_n 2, 1) := by decide +kernel
theorem dX8_takesE_28 : decode cX8_takesE 28 = .ok (.ifCond .eq 82, 3) := by decide +kernel
theorem dX8_takesE_31 : decode cX8_takesE 31 = .ok (.iload_n 3, 1) := by decide +kernel
theorem dX8_takesE_32 : decode cX8_takesE 32 = .ok (.bipush 33, 2) := by decide +kernel
theorem dX8_takesE_34 : decode cX8_takesE 34 = .ok (.if_icmp .eq 9, 3) := by decide +kernel
theorem dX8_takesE_37 : decode cX8_takesE 37 = .ok (.iload_n 3, 1) := by decide +kernel
theorem dX8_takesE_38 : decode cX8_takesE 38 = .ok (.bipush 40, 2) := by decide +kernel
theorem dX8_takesE_40 : decode cX8_takesE 40 = .ok (.if_icmp .ne 56, 3) := by decide +kernel
theorem dX8_takesE_43 : decode cX8_takesE 43 = .ok (.aload_n 0, 1) := by decide +kernel
theorem dX8_takesE_44 : decode cX8_takesE 44 = .ok (.getfield 87, 3) := by decide +kernel
theorem dX8_takesE_47 : decode cX8_takesE 47 = .ok (.iconst 4, 1) := by decide +kernel
theorem dX8_takesE_48 : decode cX8_takesE 48 = .ok (.if_icmp .ne 5, 3) := by decide +kernel
theorem dX8_takesE_51 : decode cX8_takesE 51 = .ok (.iconst 0, 1) := by decide +kernel
theorem dX8_takesE_52 : decode cX8_takesE 52 = .ok (.ireturn, 1) := by decide +kernel
theorem dX8_takesE_53 : decode cX8_takesE 53 = .ok (.aload_n 0, 1) := by decide +kernel
theorem dX8_takesE_54 : decode cX8_takesE 54 = .ok (.dup, 1) := by decide +kernel
theorem dX8_takesE_55 : decode cX8_takesE 55 = .ok (.getfield 87, 3) := by decide +kernel
theorem dX8_takesE_58 : decode cX8_takesE 58 = .ok (.iconst 1, 1) := by decide +kernel
theorem dX8_takesE_59 : decode cX8_takesE 59 = .ok (.iadd, 1) := by decide +kernel
theorem dX8_takesE_60 : decode cX8_takesE 60 = .ok (.putfield 87, 3) := by decide +kernel
theorem dX8_takesE_63 : decode cX8_takesE 63 = .ok (.aload_n 0, 1) := by decide +kernel
theorem dX8_takesE_64 : decode cX8_takesE 64 = .ok (.getfield 78, 3) := by decide +kernel
theorem dX8_takesE_67 : decode cX8_takesE 67 = .ok (.aload_n 0, 1) := by decide +kernel
theorem dX8_takesE_68 : decode cX8_takesE 68 = .ok (.getfield 84, 3) := by decide +kernel
theorem dX8_takesE_71 : decode cX8_takesE 71 = .ok (.iload_n 3, 1) := by decide +kernel
theorem dX8_takesE_72 : decode cX8_takesE 72 = .ok (.iastore, 1) := by decide +kernel
theorem dX8_takesE_73 : decode cX8_takesE 73 = .ok (.aload_n 0, 1) := by decide +kernel
theorem dX8_takesE_74 : decode cX8_takesE 74 = .ok (.dup, 1) := by decide +kernel
theorem dX8_takesE_75 : decode cX8_takesE 75 = .ok (.getfield 84, 3) := by decide +kernel
theorem dX8_takesE_78 : decode cX8_takesE 78 = .ok (.iconst 1, 1) := by decide +kernel
theorem dX8_takesE_79 : decode cX8_takesE 79 = .ok (.iadd, 1) := by decide +kernel
theorem dX8_takesE_80 : decode cX8_takesE 80 = .ok (.putfield 84, 3) := by decide +kernel
theorem dX8_takesE_83 : decode cX8_takesE 83 = .ok (.aload_n 0, 1) := by decide +kernel
theorem dX8_takesE_84 : decode cX8_takesE 84 = .ok (.dup, 1) := by decide +kernel
theorem dX8_takesE_85 : decode cX8_takesE 85 = .ok (.getfield 48, 3) := by decide +kernel
theorem dX8_takesE_88 : decode cX8_takesE 88 = .ok (.iconst 1, 1) := by decide +kernel
theorem dX8_takesE_89 : decode cX8_takesE 89 = .ok (.iadd, 1) := by decide +kernel
theorem dX8_takesE_90 : decode cX8_takesE 90 = .ok (.putfield 48, 3) := by decide +kernel
theorem dX8_takesE_93 : decode cX8_takesE 93 = .ok (.goto (-71), 3) := by decide +kernel
theorem dX8_takesE_96 : decode cX8_takesE 96 = .ok (.aload_n 0, 1) := by decide +kernel
theorem dX8_takesE_97 : decode cX8_takesE 97 = .ok (.invokevirtual 188, 3) := by decide +kernel
theorem dX8_takesE_100 : decode cX8_takesE 100 = .ok (.ifCond .eq 8, 3) := by decide +kernel
theorem dX8_takesE_103 : decode cX8_takesE 103 = .ok (.iconst 0, 1) := by decide +kernel
theorem dX8_takesE_104 : decode cX8_takesE 104 = .ok (.istore_n 2, 1) := by decide +kernel
theorem dX8_takesE_105 : decode cX8_takesE 105 = .ok (.goto (-83), 3) := by decide +kernel
theorem dX8_takesE_108 : decode cX8_takesE 108 = .ok (.iconst 0, 1) := by decide +kernel
theorem dX8_takesE_109 : decode cX8_takesE 109 = .ok (.ireturn, 1) := by decide +kernel
theorem dX8_takesE_110 : decode cX8_takesE 110 = .ok (.iload_n 3, 1) := by decide +kernel
theorem dX8_takesE_111 : decode cX8_takesE 111 = .ok (.bipush 38, 2) := by decide +kernel
theorem dX8_takesE_113 : decode cX8_takesE 113 = .ok (.if_icmp .eq 9, 3) := by decide +kernel
theorem dX8_takesE_116 : decode cX8_takesE 116 = .ok (.iload_n 3, 1) := by decide +kernel
theorem dX8_takesE_117 : decode cX8_takesE 117 = .ok (.bipush 124, 2) := by decide +kernel
theorem dX8_takesE_119 : decode cX8_takesE 119 = .ok (.if_icmp .ne 43, 3) := by decide +kernel
theorem dX8_takesE_122 : decode cX8_takesE 122 = .ok (.aload_n 0, 1) := by decide +kernel
theorem dX8_takesE_123 : decode cX8_takesE 123 = .ok (.iload_n 3, 1) := by decide +kernel
theorem dX8_takesE_124 : decode cX8_takesE 124 = .ok (.invokevirtual 191, 3) := by decide +kernel
theorem dX8_takesE_127 : decode cX8_takesE 127 = .ok (.aload_n 0, 1) := by decide +kernel
theorem dX8_takesE_128 : decode cX8_takesE 128 = .ok (.getfield 78, 3) := by decide +kernel
theorem dX8_takesE_131 : decode cX8_takesE 131 = .ok (.aload_n 0, 1) := by decide +kernel
theorem dX8_takesE_132 : decode cX8_takesE 132 = .ok (.getfield 84, 3) := by decide +kernel
theorem dX8_takesE_135 : decode cX8_takesE 135 = .ok (.iload_n 3, 1) := by decide +kernel
theorem dX8_takesE_136 : decode cX8_takesE 136 = .ok (.iastore, 1) := by decide +kernel
theorem dX8_takesE_137 : decode cX8_takesE 137 = .ok (.aload_n 0, 1) := by decide +kernel
theorem dX8_takesE_138 : decode cX8_takesE 138 = .ok (.dup, 1) := by decide +kernel
theorem dX8_takesE_139 : decode cX8_takesE 139 = .ok (.getfield 84, 3) := by decide +kernel
theorem dX8_takesE_142 : decode cX8_takesE 142 = .ok (.iconst 1, 1) := by decide +kernel
theorem dX8_takesE_143 : decode cX8_takesE 143 = .ok (.iadd, 1) := by decide +kernel
theorem dX8_takesE_144 : decode cX8_takesE 144 = .ok (.putfield 84, 3) := by decide +kernel
theorem dX8_takesE_147 : decode cX8_takesE 147 = .ok (.iconst 1, 1) := by decide +kernel
theorem dX8_takesE_148 : decode cX8_takesE 148 = .ok (.istore_n 2, 1) := by decide +kernel
theorem dX8_takesE_149 : decode cX8_takesE 149 = .ok (.aload_n 0, 1) := by decide +kernel
theorem dX8_takesE_150 : decode cX8_takesE 150 = .ok (.dup, 1) := by decide +kernel
theorem dX8_takesE_151 : decode cX8_takesE 151 = .ok (.getfield 48, 3) := by decide +kernel
theorem dX8_takesE_154 : decode cX8_takesE 154 = .ok (.iconst 1, 1) := by decide +kernel
theorem dX8_takesE_155 : decode cX8_takesE 155 = .ok (.iadd, 1) := by decide +kernel
theorem dX8_takesE_156 : decode cX8_takesE 156 = .ok (.putfield 48, 3) := by decide +kernel
theorem dX8_takesE_159 : decode cX8_takesE 159 = .ok (.goto (-137), 3) := by decide +kernel
theorem dX8_takesE_162 : decode cX8_takesE 162 = .ok (.aload_n 0, 1) := by decide +kernel
theorem dX8_takesE_163 : decode cX8_takesE 163 = .ok (.bipush 124, 2) := by decide +kernel
theorem dX8_takesE_165 : decode cX8_takesE 165 = .ok (.invokevirtual 191, 3) := by decide +kernel
theorem dX8_takesE_168 : decode cX8_takesE 168 = .ok (.aload_n 0, 1) := by decide +kernel
theorem dX8_takesE_169 : decode cX8_takesE 169 = .ok (.getfield 72, 3) := by decide +kernel
theorem dX8_takesE_172 : decode cX8_takesE 172 = .ok (.iload_n 1, 1) := by decide +kernel
theorem dX8_takesE_173 : decode cX8_takesE 173 = .ok (.aload_n 0, 1) := by decide +kernel
theorem dX8_takesE_174 : decode cX8_takesE 174 = .ok (.getfield 81, 3) := by decide +kernel
theorem dX8_takesE_177 : decode cX8_takesE 177 = .ok (.iastore, 1) := by decide +kernel
theorem dX8_takesE_178 : decode cX8_takesE 178 = .ok (.aload_n 0, 1) := by decide +kernel
theorem dX8_takesE_179 : decode cX8_takesE 179 = .ok (.getfield 84, 3) := by decide +kernel
theorem dX8_takesE_182 : decode cX8_takesE 182 = .ok (.ifCond .ne 5, 3) := by decide +kernel
theorem dX8_takesE_185 : decode cX8_takesE 185 = .ok (.iconst 1, 1) := by decide +kernel
theorem dX8_takesE_186 : decode cX8_takesE 186 = .ok (.ireturn, 1) := by decide +kernel
theorem dX8_takesE_187 : decode cX8_takesE 187 = .ok (.iload_n 3, 1) := by decide +kernel
theorem dX8_takesE_188 : decode cX8_takesE 188 = .ok (.bipush 41, 2) := by decide +kernel
theorem dX8_takesE_190 : decode cX8_takesE 190 = .ok (.if_icmp .eq 5, 3) := by decide +kernel
theorem dX8_takesE_193 : decode cX8_takesE 193 = .ok (.iconst 0, 1) := by decide +kernel
theorem dX8_takesE_194 : decode cX8_takesE 194 = .ok (.ireturn, 1) := by decide +kernel
theorem dX8_takesE_195 : decode cX8_takesE 195 = .ok (.aload_n 0, 1) := by decide +kernel
theorem dX8_takesE_196 : decode cX8_takesE 196 = .ok (.dup, 1) := by decide +kernel
theorem dX8_takesE_197 : decode cX8_takesE 197 = .ok (.getfield 84, 3) := by decide +kernel
theorem dX8_takesE_200 : decode cX8_takesE 200 = .ok (.iconst 1, 1) := by decide +kernel
theorem dX8_takesE_201 : decode cX8_takesE 201 = .ok (.isub, 1) := by decide +kernel
theorem dX8_takesE_202 : decode cX8_takesE 202 = .ok (.putfield 84, 3) := by decide +kernel
theorem dX8_takesE_205 : decode cX8_takesE 205 = .ok (.aload_n 0, 1) := by decide +kernel
theorem dX8_takesE_206 : decode cX8_takesE 206 = .ok (.dup, 1) := by decide +kernel
theorem dX8_takesE_207 : decode cX8_takesE 207 = .ok (.getfield 87, 3) := by decide +kernel
theorem dX8_takesE_210 : decode cX8_takesE 210 = .ok (.iconst 1, 1) := by decide +kernel
theorem dX8_takesE_211 : decode cX8_takesE 211 = .ok (.isub, 1) := by decide +kernel
theorem dX8_takesE_212 : decode cX8_takesE 212 = .ok (.putfield 87, 3) := by decide +kernel
theorem dX8_takesE_215 : decode cX8_takesE 215 = .ok (.aload_n 0, 1) := by decide +kernel
theorem dX8_takesE_216 : decode cX8_takesE 216 = .ok (.dup, 1) := by decide +kernel
theorem dX8_takesE_217 : decode cX8_takesE 217 = .ok (.getfield 48, 3) := by decide +kernel
theorem dX8_takesE_220 : decode cX8_takesE 220 = .ok (.iconst 1, 1) := by decide +kernel
theorem dX8_takesE_221 : decode cX8_takesE 221 = .ok (.iadd, 1) := by decide +kernel
theorem dX8_takesE_222 : decode cX8_takesE 222 = .ok (.putfield 48, 3) := by decide +kernel
theorem dX8_takesE_225 : decode cX8_takesE 225 = .ok (.aload_n 0, 1) := by decide +kernel
theorem dX8_takesE_226 : decode cX8_takesE 226 = .ok (.invokevirtual 185, 3) := by decide +kernel
theorem dX8_takesE_229 : decode cX8_takesE 229 = .ok (.goto (-207), 3) := by decide +kernel
theorem dX8_takesFigure_0 : decode cX8_takesFigure 0 = .ok (.aload_n 0, 1) := by decide +kernel
theorem dX8_takesFigure_1 : decode cX8_takesFigure 1 = .ok (.aload_n 0, 1) := by decide +kernel
theorem dX8_takesFigure_2 : decode cX8_takesFigure 2 = .ok (.invokevirtual 163, 3) := by decide +kernel
theorem dX8_takesFigure_5 : decode cX8_takesFigure 5 = .ok (.bipush 48, 2) := by decide +kernel
theorem dX8_takesFigure_7 : decode cX8_takesFigure 7 = .ok (.bipush 48, 2) := by decide +kernel
theorem dX8_takesFigure_9 : decode cX8_takesFigure 9 = .ok (.iload_n 1, 1) := by decide +kernel
theorem dX8_takesFigure_10 : decode cX8_takesFigure 10 = .ok (.iadd, 1) := by decide +kernel
theorem dX8_takesFigure_11 : decode cX8_takesFigure 11 = .ok (.invokevirtual 150, 3) := by decide +kernel
theorem dX8_takesFigure_14 : decode cX8_takesFigure 14 = .ok (.ifCond .ne 5, 3) := by decide +kernel
theorem dX8_takesFigure_17 : decode cX8_takesFigure 17 = .ok (.iconst 0, 1) := by decide +kernel
theorem dX8_takesFigure_18 : decode cX8_takesFigure 18 = .ok (.ireturn, 1) := by decide +kernel
theorem dX8_takesFigure_19 : decode cX8_takesFigure 19 = .ok (.aload_n 0, 1) := by decide +kernel
theorem dX8_takesFigure_20 : decode cX8_takesFigure 20 = .ok (.aload_n 0, 1) := by decide +kernel
theorem dX8_takesFigure_21 : decode cX8_takesFigure 21 = .ok (.invokevirtual 163, 3) := by decide +kernel
theorem dX8_takesFigure_24 : decode cX8_takesFigure 24 = .ok (.bipush 48, 2) := by decide +kernel
theorem dX8_takesFigure_26 : decode cX8_takesFigure 26 = .ok (.isub, 1) := by decide +kernel
theorem dX8_takesFigure_27 : decode cX8_takesFigure 27 = .ok (.putfield 51, 3) := by decide +kernel
theorem dX8_takesFigure_30 : decode cX8_takesFigure 30 = .ok (.aload_n 0, 1) := by decide +kernel
theorem dX8_takesFigure_31 : decode cX8_takesFigure 31 = .ok (.dup, 1) := by decide +kernel
theorem dX8_takesFigure_32 : decode cX8_takesFigure 32 = .ok (.getfield 48, 3) := by decide +kernel
theorem dX8_takesFigure_35 : decode cX8_takesFigure 35 = .ok (.iconst 1, 1) := by decide +kernel
theorem dX8_takesFigure_36 : decode cX8_takesFigure 36 = .ok (.iadd, 1) := by decide +kernel
theorem dX8_takesFigure_37 : decode cX8_takesFigure 37 = .ok (.putfield 48, 3) := by decide +kernel
theorem dX8_takesFigure_40 : decode cX8_takesFigure 40 = .ok (.iconst 1, 1) := by decide +kernel
theorem dX8_takesFigure_41 : decode cX8_takesFigure 41 = .ok (.ireturn, 1) := by decide +kernel
theorem dX8_takesHead_0 : decode cX8_takesHead 0 = .ok (.aload_n 0, 1) := by decide +kernel
theorem dX8_takesHead_1 : decode cX8_takesHead 1 = .ok (.invokevirtual 194, 3) := by decide +kernel
theorem dX8_takesHead_4 : decode cX8_takesHead 4 = .ok (.istore_n 2, 1) := by decide +kernel
theorem dX8_takesHead_5 : decode cX8_takesHead 5 = .ok (.aload_n 0, 1) := by decide +kernel
theorem dX8_takesHead_6 : decode cX8_takesHead 6 = .ok (.invokevirtual 163, 3) := by decide +kernel
theorem dX8_takesHead_9 : decode cX8_takesHead 9 = .ok (.lookupswitch 104 #[(101, 35), (104, 89), (108, 74)], 35) := by decide +kernel
theorem dX8_takesHead_44 : decode cX8_takesHead 44 = .ok (.aload_n 0, 1) := by decide +kernel
theorem dX8_takesHead_45 : decode cX8_takesHead 45 = .ok (.getfield 60, 3) := by decide +kernel
theorem dX8_takesHead_48 : decode cX8_takesHead 48 = .ok (.iload_n 1, 1) := by decide +kernel
theorem dX8_takesHead_49 : decode cX8_takesHead 49 = .ok (.iload_n 2, 1) := by decide +kernel
theorem dX8_takesHead_50 : decode cX8_takesHead 50 = .ok (.bipush 121, 2) := by decide +kernel
theorem dX8_takesHead_52 : decode cX8_takesHead 52 = .ok (.if_icmp .ne 7, 3) := by decide +kernel
theorem dX8_takesHead_55 : decode cX8_takesHead 55 = .ok (.iconst 1, 1) := by decide +kernel
theorem dX8_takesHead_56 : decode cX8_takesHead 56 = .ok (.goto 4, 3) := by decide +kernel
theorem dX8_takesHead_59 : decode cX8_takesHead 59 = .ok (.iconst 0, 1) := by decide +kernel
theorem dX8_takesHead_60 : decode cX8_takesHead 60 = .ok (.iastore, 1) := by decide +kernel
theorem dX8_takesHead_61 : decode cX8_takesHead 61 = .ok (.iload_n 2, 1) := by decide +kernel
theorem dX8_takesHead_62 : decode cX8_takesHead 62 = .ok (.bipush 121, 2) := by decide +kernel
theorem dX8_takesHead_64 : decode cX8_takesHead 64 = .ok (.if_icmp .ne 12, 3) := by decide +kernel
theorem dX8_takesHead_67 : decode cX8_takesHead 67 = .ok (.aload_n 0, 1) := by decide +kernel
theorem dX8_takesHead_68 : decode cX8_takesHead 68 = .ok (.iconst 0, 1) := by decide +kernel
theorem dX8_takesHead_69 : decode cX8_takesHead 69 = .ok (.iconst 3, 1) := by decide +kernel
theorem dX8_takesHead_70 : decode cX8_takesHead 70 = .ok (.invokevirtual 197, 3) := by decide +kernel
theorem dX8_takesHead_73 : decode cX8_takesHead 73 = .ok (.goto 9, 3) := by decide +kernel
theorem dX8_takesHead_76 : decode cX8_takesHead 76 = .ok (.aload_n 0, 1) := by decide +kernel
theorem dX8_takesHead_77 : decode cX8_takesHead 77 = .ok (.iconst 3, 1) := by decide +kernel
theorem dX8_takesHead_78 : decode cX8_takesHead 78 = .ok (.iconst 3, 1) := by decide +kernel
theorem dX8_takesHead_79 : decode cX8_takesHead 79 = .ok (.invokevirtual 197, 3) := by decide +kernel
theorem dX8_takesHead_82 : decode cX8_takesHead 82 = .ok (.ireturn, 1) := by decide +kernel
theorem dX8_takesHead_83 : decode cX8_takesHead 83 = .ok (.aload_n 0, 1) := by decide +kernel
theorem dX8_takesHead_84 : decode cX8_takesHead 84 = .ok (.getfield 60, 3) := by decide +kernel
theorem dX8_takesHead_87 : decode cX8_takesHead 87 = .ok (.iload_n 1, 1) := by decide +kernel
theorem dX8_takesHead_88 : decode cX8_takesHead 88 = .ok (.iconst 2, 1) := by decide +kernel
theorem dX8_takesHead_89 : decode cX8_takesHead 89 = .ok (.iastore, 1) := by decide +kernel
theorem dX8_takesHead_90 : decode cX8_takesHead 90 = .ok (.aload_n 0, 1) := by decide +kernel
theorem dX8_takesHead_91 : decode cX8_takesHead 91 = .ok (.bipush 6, 2) := by decide +kernel
theorem dX8_takesHead_93 : decode cX8_takesHead 93 = .ok (.iconst 4, 1) := by decide +kernel
theorem dX8_takesHead_94 : decode cX8_takesHead 94 = .ok (.invokevirtual 197, 3) := by decide +kernel
theorem dX8_takesHead_97 : decode cX8_takesHead 97 = .ok (.ireturn, 1) := by decide +kernel
theorem dX8_takesHead_98 : decode cX8_takesHead 98 = .ok (.aload_n 0, 1) := by decide +kernel
theorem dX8_takesHead_99 : decode cX8_takesHead 99 = .ok (.getfield 60, 3) := by decide +kernel
theorem dX8_takesHead_102 : decode cX8_takesHead 102 = .ok (.iload_n 1, 1) := by decide +kernel
theorem dX8_takesHead_103 : decode cX8_takesHead 103 = .ok (.iconst 3, 1) := by decide +kernel
theorem dX8_takesHead_104 : decode cX8_takesHead 104 = .ok (.iastore, 1) := by decide +kernel
theorem dX8_takesHead_105 : decode cX8_takesHead 105 = .ok (.aload_n 0, 1) := by decide +kernel
theorem dX8_takesHead_106 : decode cX8_takesHead 106 = .ok (.bipush 10, 2) := by decide +kernel
theorem dX8_takesHead_108 : decode cX8_takesHead 108 = .ok (.iconst 5, 1) := by decide +kernel
theorem dX8_takesHead_109 : decode cX8_takesHead 109 = .ok (.invokevirtual 197, 3) := by decide +kernel
theorem dX8_takesHead_112 : decode cX8_takesHead 112 = .ok (.ireturn, 1) := by decide +kernel
theorem dX8_takesHead_113 : decode cX8_takesHead 113 = .ok (.aload_n 0, 1) := by decide +kernel
theorem dX8_takesHead_114 : decode cX8_takesHead 114 = .ok (.getfield 60, 3) := by decide +kernel
theorem dX8_takesHead_117 : decode cX8_takesHead 117 = .ok (.iload_n 1, 1) := by decide +kernel
theorem dX8_takesHead_118 : decode cX8_takesHead 118 = .ok (.iconst 4, 1) := by decide +kernel
theorem dX8_takesHead_119 : decode cX8_takesHead 119 = .ok (.iastore, 1) := by decide +kernel
theorem dX8_takesHead_120 : decode cX8_takesHead 120 = .ok (.aload_n 0, 1) := by decide +kernel
theorem dX8_takesHead_121 : decode cX8_takesHead 121 = .ok (.bipush 15, 2) := by decide +kernel
theorem dX8_takesHead_123 : decode cX8_takesHead 123 = .ok (.iconst 4, 1) := by decide +kernel
theorem dX8_takesHead_124 : decode cX8_takesHead 124 = .ok (.invokevirtual 197, 3) := by decide +kernel
theorem dX8_takesHead_127 : decode cX8_takesHead 127 = .ok (.ireturn, 1) := by decide +kernel
theorem dX8_takesClause_0 : decode cX8_takesClause 0 = .ok (.aload_n 0, 1) := by decide +kernel
theorem dX8_takesClause_1 : decode cX8_takesClause 1 = .ok (.iload_n 1, 1) := by decide +kernel
theorem dX8_takesClause_2 : decode cX8_takesClause 2 = .ok (.invokevirtual 201, 3) := by decide +kernel
theorem dX8_takesClause_5 : decode cX8_takesClause 5 = .ok (.ifCond .ne 5, 3) := by decide +kernel
theorem dX8_takesClause_8 : decode cX8_takesClause 8 = .ok (.iconst 0, 1) := by decide +kernel
theorem dX8_takesClause_9 : decode cX8_takesClause 9 = .ok (.ireturn, 1) := by decide +kernel
theorem dX8_takesClause_10 : decode cX8_takesClause 10 = .ok (.aload_n 0, 1) := by decide +kernel
theorem dX8_takesClause_11 : decode cX8_takesClause 11 = .ok (.getfield 63, 3) := by decide +kernel
theorem dX8_takesClause_14 : decode cX8_takesClause 14 = .ok (.iload_n 1, 1) := by decide +kernel
theorem dX8_takesClause_15 : decode cX8_takesClause 15 = .ok (.iconst 0, 1) := by decide +kernel
theorem dX8_takesClause_16 : decode cX8_takesClause 16 = .ok (.iastore, 1) := by decide +kernel
theorem dX8_takesClause_17 : decode cX8_takesClause 17 = .ok (.aload_n 0, 1) := by decide +kernel
theorem dX8_takesClause_18 : decode cX8_takesClause 18 = .ok (.getfield 60, 3) := by decide +kernel
theorem dX8_takesClause_21 : decode cX8_takesClause 21 = .ok (.iload_n 1, 1) := by decide +kernel
theorem dX8_takesClause_22 : decode cX8_takesClause 22 = .ok (.iaload, 1) := by decide +kernel
theorem dX8_takesClause_23 : decode cX8_takesClause 23 = .ok (.iconst 3, 1) := by decide +kernel
theorem dX8_takesClause_24 : decode cX8_takesClause 24 = .ok (.if_icmp .lt 105, 3) := by decide +kernel
theorem dX8_takesClause_27 : decode cX8_takesClause 27 = .ok (.aload_n 0, 1) := by decide +kernel
theorem dX8_takesClause_28 : decode cX8_takesClause 28 = .ok (.bipush 9, 2) := by decide +kernel
theorem dX8_takesClause_30 : decode cX8_takesClause 30 = .ok (.invokevirtual 204, 3) := by decide +kernel
theorem dX8_takesClause_33 : decode cX8_takesClause 33 = .ok (.ifCond .ne 5, 3) := by decide +kernel
theorem dX8_takesClause_36 : decode cX8_takesClause 36 = .ok (.iconst 0, 1) := by decide +kernel
theorem dX8_takesClause_37 : decode cX8_takesClause 37 = .ok (.ireturn, 1) := by decide +kernel
theorem dX8_takesClause_38 : decode cX8_takesClause 38 = .ok (.aload_n 0, 1) := by decide +kernel
theorem dX8_takesClause_39 : decode cX8_takesClause 39 = .ok (.getfield 63, 3) := by decide +kernel
theorem dX8_takesClause_42 : decode cX8_takesClause 42 = .ok (.iload_n 1, 1) := by decide +kernel
theorem dX8_takesClause_43 : decode cX8_takesClause 43 = .ok (.bipush 16, 2) := by decide +kernel
theorem dX8_takesClause_45 : decode cX8_takesClause 45 = .ok (.aload_n 0, 1) := by decide +kernel
theorem dX8_takesClause_46 : decode cX8_takesClause 46 = .ok (.getfield 51, 3) := by decide +kernel
theorem dX8_takesClause_49 : decode cX8_takesClause 49 = .ok (.imul, 1) := by decide +kernel
theorem dX8_takesClause_50 : decode cX8_takesClause 50 = .ok (.iastore, 1) := by decide +kernel
theorem dX8_takesClause_51 : decode cX8_takesClause 51 = .ok (.aload_n 0, 1) := by decide +kernel
theorem dX8_takesClause_52 : decode cX8_takesClause 52 = .ok (.bipush 32, 2) := by decide +kernel
theorem dX8_takesClause_54 : decode cX8_takesClause 54 = .ok (.invokevirtual 167, 3) := by decide +kernel
theorem dX8_takesClause_57 : decode cX8_takesClause 57 = .ok (.ifCond .ne 5, 3) := by decide +kernel
theorem dX8_takesClause_60 : decode cX8_takesClause 60 = .ok (.iconst 0, 1) := by decide +kernel
theorem dX8_takesClause_61 : decode cX8_takesClause 61 = .ok (.ireturn, 1) := by decide +kernel
theorem dX8_takesClause_62 : decode cX8_takesClause 62 = .ok (.aload_n 0, 1) := by decide +kernel
theorem dX8_takesClause_63 : decode cX8_takesClause 63 = .ok (.getfield 60, 3) := by decide +kernel
theorem dX8_takesClause_66 : decode cX8_takesClause 66 = .ok (.iload_n 1, 1) := by decide +kernel
theorem dX8_takesClause_67 : decode cX8_takesClause 67 = .ok (.iaload, 1) := by decide +kernel
theorem dX8_takesClause_68 : decode cX8_takesClause 68 = .ok (.iconst 3, 1) := by decide +kernel
theorem dX8_takesClause_69 : decode cX8_takesClause 69 = .ok (.if_icmp .ne 37, 3) := by decide +kernel
theorem dX8_takesClause_72 : decode cX8_takesClause 72 = .ok (.aload_n 0, 1) := by decide +kernel
theorem dX8_takesClause_73 : decode cX8_takesClause 73 = .ok (.iconst 1, 1) := by decide +kernel
theorem dX8_takesClause_74 : decode cX8_takesClause 74 = .ok (.invokevirtual 204, 3) := by decide +kernel
theorem dX8_takesClause_77 : decode cX8_takesClause 77 = .ok (.ifCond .ne 5, 3) := by decide +kernel
theorem dX8_takesClause_80 : decode cX8_takesClause 80 = .ok (.iconst 0, 1) := by decide +kernel
theorem dX8_takesClause_81 : decode cX8_takesClause 81 = .ok (.ireturn, 1) := by decide +kernel
theorem dX8_takesClause_82 : decode cX8_takesClause 82 = .ok (.aload_n 0, 1) := by decide +kernel
theorem dX8_takesClause_83 : decode cX8_takesClause 83 = .ok (.getfield 63, 3) := by decide +kernel
theorem dX8_takesClause_86 : decode cX8_takesClause 86 = .ok (.iload_n 1, 1) := by decide +kernel
theorem dX8_takesClause_87 : decode cX8_takesClause 87 = .ok (.dup2, 1) := by decide +kernel
theorem dX8_takesClause_88 : decode cX8_takesClause 88 = .ok (.iaload, 1) := by decide +kernel
theorem dX8_takesClause_89 : decode cX8_takesClause 89 = .ok (.aload_n 0, 1) := by decide +kernel
theorem dX8_takesClause_90 : decode cX8_takesClause 90 = .ok (.getfield 51, 3) := by decide +kernel
theorem dX8_takesClause_93 : decode cX8_takesClause 93 = .ok (.iadd, 1) := by decide +kernel
theorem dX8_takesClause_94 : decode cX8_takesClause 94 = .ok (.iastore, 1) := by decide +kernel
theorem dX8_takesClause_95 : decode cX8_takesClause 95 = .ok (.aload_n 0, 1) := by decide +kernel
theorem dX8_takesClause_96 : decode cX8_takesClause 96 = .ok (.bipush 32, 2) := by decide +kernel
theorem dX8_takesClause_98 : decode cX8_takesClause 98 = .ok (.invokevirtual 167, 3) := by decide +kernel
theorem dX8_takesClause_101 : decode cX8_takesClause 101 = .ok (.ifCond .ne 5, 3) := by decide +kernel
theorem dX8_takesClause_104 : decode cX8_takesClause 104 = .ok (.iconst 0, 1) := by decide +kernel
theorem dX8_takesClause_105 : decode cX8_takesClause 105 = .ok (.ireturn, 1) := by decide +kernel
theorem dX8_takesClause_106 : decode cX8_takesClause 106 = .ok (.aload_n 0, 1) := by decide +kernel
theorem dX8_takesClause_107 : decode cX8_takesClause 107 = .ok (.bipush 9, 2) := by decide +kernel
theorem dX8_takesClause_109 : decode cX8_takesClause 109 = .ok (.invokevirtual 204, 3) := by decide +kernel
theorem dX8_takesClause_112 : decode cX8_takesClause 112 = .ok (.ifCond .ne 5, 3) := by decide +kernel
theorem dX8_takesClause_115 : decode cX8_takesClause 115 = .ok (.iconst 0, 1) := by decide +kernel
theorem dX8_takesClause_116 : decode cX8_takesClause 116 = .ok (.ireturn, 1) := by decide +kernel
theorem dX8_takesClause_117 : decode cX8_takesClause 117 = .ok (.aload_n 0, 1) := by decide +kernel
theorem dX8_takesClause_118 : decode cX8_takesClause 118 = .ok (.getfield 66, 3) := by decide +kernel
theorem dX8_takesClause_121 : decode cX8_takesClause 121 = .ok (.iload_n 1, 1) := by decide +kernel
theorem dX8_takesClause_122 : decode cX8_takesClause 122 = .ok (.aload_n 0, 1) := by decide +kernel
theorem dX8_takesClause_123 : decode cX8_takesClause 123 = .ok (.getfield 51, 3) := by decide +kernel
theorem dX8_takesClause_126 : decode cX8_takesClause 126 = .ok (.iastore, 1) := by decide +kernel
theorem dX8_takesClause_127 : decode cX8_takesClause 127 = .ok (.iconst 1, 1) := by decide +kernel
theorem dX8_takesClause_128 : decode cX8_takesClause 128 = .ok (.ireturn, 1) := by decide +kernel
theorem dX8_takesClause_129 : decode cX8_takesClause 129 = .ok (.aload_n 0, 1) := by decide +kernel
theorem dX8_takesClause_130 : decode cX8_takesClause 130 = .ok (.invokevirtual 182, 3) := by decide +kernel
theorem dX8_takesClause_133 : decode cX8_takesClause 133 = .ok (.ifCond .ne 5, 3) := by decide +kernel
theorem dX8_takesClause_136 : decode cX8_takesClause 136 = .ok (.iconst 0, 1) := by decide +kernel
theorem dX8_takesClause_137 : decode cX8_takesClause 137 = .ok (.ireturn, 1) := by decide +kernel
theorem dX8_takesClause_138 : decode cX8_takesClause 138 = .ok (.aload_n 0, 1) := by decide +kernel
theorem dX8_takesClause_139 : decode cX8_takesClause 139 = .ok (.getfield 66, 3) := by decide +kernel
theorem dX8_takesClause_142 : decode cX8_takesClause 142 = .ok (.iload_n 1, 1) := by decide +kernel
theorem dX8_takesClause_143 : decode cX8_takesClause 143 = .ok (.aload_n 0, 1) := by decide +kernel
theorem dX8_takesClause_144 : decode cX8_takesClause 144 = .ok (.getfield 51, 3) := by decide +kernel
theorem dX8_takesClause_147 : decode cX8_takesClause 147 = .ok (.iastore, 1) := by decide +kernel
theorem dX8_takesClause_148 : decode cX8_takesClause 148 = .ok (.aload_n 0, 1) := by decide +kernel
theorem dX8_takesClause_149 : decode cX8_takesClause 149 = .ok (.getfield 60, 3) := by decide +kernel
theorem dX8_takesClause_152 : decode cX8_takesClause 152 = .ok (.iload_n 1, 1) := by decide +kernel
theorem dX8_takesClause_153 : decode cX8_takesClause 153 = .ok (.iaload, 1) := by decide +kernel
theorem dX8_takesClause_154 : decode cX8_takesClause 154 = .ok (.iconst 2, 1) := by decide +kernel
theorem dX8_takesClause_155 : decode cX8_takesClause 155 = .ok (.if_icmp .eq 20, 3) := by decide +kernel
theorem dX8_takesClause_158 : decode cX8_takesClause 158 = .ok (.aload_n 0, 1) := by decide +kernel
theorem dX8_takesClause_159 : decode cX8_takesClause 159 = .ok (.bipush 32, 2) := by decide +kernel
theorem dX8_takesClause_161 : decode cX8_takesClause 161 = .ok (.invokevirtual 167, 3) := by decide +kernel
theorem dX8_takesClause_164 : decode cX8_takesClause 164 = .ok (.ifCond .eq 15, 3) := by decide +kernel
theorem dX8_takesClause_167 : decode cX8_takesClause 167 = .ok (.aload_n 0, 1) := by decide +kernel
theorem dX8_takesClause_168 : decode cX8_takesClause 168 = .ok (.iload_n 1, 1) := by decide +kernel
theorem dX8_takesClause_169 : decode cX8_takesClause 169 = .ok (.invokevirtual 207, 3) := by decide +kernel
theorem dX8_takesClause_172 : decode cX8_takesClause 172 = .ok (.ifCond .eq 7, 3) := by decide +kernel
theorem dX8_takesClause_175 : decode cX8_takesClause 175 = .ok (.iconst 1, 1) := by decide +kernel
theorem dX8_takesClause_176 : decode cX8_takesClause 176 = .ok (.goto 4, 3) := by decide +kernel
theorem dX8_takesClause_179 : decode cX8_takesClause 179 = .ok (.iconst 0, 1) := by decide +kernel
theorem dX8_takesClause_180 : decode cX8_takesClause 180 = .ok (.ireturn, 1) := by decide +kernel
theorem dX8_goesText_0 : decode cX8_goesText 0 = .ok (.aload_n 0, 1) := by decide +kernel
theorem dX8_goesText_1 : decode cX8_goesText 1 = .ok (.iconst 0, 1) := by decide +kernel
theorem dX8_goesText_2 : decode cX8_goesText 2 = .ok (.putfield 48, 3) := by decide +kernel
theorem dX8_goesText_5 : decode cX8_goesText 5 = .ok (.aload_n 0, 1) := by decide +kernel
theorem dX8_goesText_6 : decode cX8_goesText 6 = .ok (.bipush 100, 2) := by decide +kernel
theorem dX8_goesText_8 : decode cX8_goesText 8 = .ok (.iload_n 1, 1) := by decide +kernel
theorem dX8_goesText_9 : decode cX8_goesText 9 = .ok (.imul, 1) := by decide +kernel
theorem dX8_goesText_10 : decode cX8_goesText 10 = .ok (.putfield 81, 3) := by decide +kernel
theorem dX8_goesText_13 : decode cX8_goesText 13 = .ok (.iconst 0, 1) := by decide +kernel
theorem dX8_goesText_14 : decode cX8_goesText 14 = .ok (.istore_n 2, 1) := by decide +kernel
theorem dX8_goesText_15 : decode cX8_goesText 15 = .ok (.aload_n 0, 1) := by decide +kernel
theorem dX8_goesText_16 : decode cX8_goesText 16 = .ok (.bipush 10, 2) := by decide +kernel
theorem dX8_goesText_18 : decode cX8_goesText 18 = .ok (.iload_n 1, 1) := by decide +kernel
theorem dX8_goesText_19 : decode cX8_goesText 19 = .ok (.imul, 1) := by decide +kernel
theorem dX8_goesText_20 : decode cX8_goesText 20 = .ok (.iload_n 2, 1) := by decide +kernel
theorem dX8_goesText_21 : decode cX8_goesText 21 = .ok (.iadd, 1) := by decide +kernel
theorem dX8_goesText_22 : decode cX8_goesText 22 = .ok (.invokevirtual 210, 3) := by decide +kernel
theorem dX8_goesText_25 : decode cX8_goesText 25 = .ok (.ifCond .ne 5, 3) := by decide +kernel
theorem dX8_goesText_28 : decode cX8_goesText 28 = .ok (.iconst 0, 1) := by decide +kernel
theorem dX8_goesText_29 : decode cX8_goesText 29 = .ok (.ireturn, 1) := by decide +kernel
theorem dX8_goesText_30 : decode cX8_goesText 30 = .ok (.iinc 2 1, 3) := by decide +kernel
theorem dX8_goesText_33 : decode cX8_goesText 33 = .ok (.aload_n 0, 1) := by decide +kernel
theorem dX8_goesText_34 : decode cX8_goesText 34 = .ok (.getfield 57, 3) := by decide +kernel
theorem dX8_goesText_37 : decode cX8_goesText 37 = .ok (.iload_n 1, 1) := by decide +kernel
theorem dX8_goesText_38 : decode cX8_goesText 38 = .ok (.iload_n 2, 1) := by decide +kernel
theorem dX8_goesText_39 : decode cX8_goesText 39 = .ok (.iastore, 1) := by decide +kernel
theorem dX8_goesText_40 : decode cX8_goesText 40 = .ok (.aload_n 0, 1) := by decide +kernel
theorem dX8_goesText_41 : decode cX8_goesText 41 = .ok (.getfield 48, 3) := by decide +kernel
theorem dX8_goesText_44 : decode cX8_goesText 44 = .ok (.aload_n 0, 1) := by decide +kernel
theorem dX8_goesText_45 : decode cX8_goesText 45 = .ok (.getfield 45, 3) := by decide +kernel
theorem dX8_goesText_48 : decode cX8_goesText 48 = .ok (.if_icmp .ne 5, 3) := by decide +kernel
theorem dX8_goesText_51 : decode cX8_goesText 51 = .ok (.iconst 1, 1) := by decide +kernel
theorem dX8_goesText_52 : decode cX8_goesText 52 = .ok (.ireturn, 1) := by decide +kernel
theorem dX8_goesText_53 : decode cX8_goesText 53 = .ok (.iload_n 2, 1) := by decide +kernel
theorem dX8_goesText_54 : decode cX8_goesText 54 = .ok (.bipush 10, 2) := by decide +kernel
theorem dX8_goesText_56 : decode cX8_goesText 56 = .ok (.if_icmp .eq 12, 3) := by decide +kernel
theorem dX8_goesText_59 : decode cX8_goesText 59 = .ok (.aload_n 0, 1) := by decide +kernel
theorem dX8_goesText_60 : decode cX8_goesText 60 = .ok (.bipush 59, 2) := by decide +kernel
theorem dX8_goesText_62 : decode cX8_goesText 62 = .ok (.invokevirtual 167, 3) := by decide +kernel
theorem dX8_goesText_65 : decode cX8_goesText 65 = .ok (.ifCond .ne (-50), 3) := by decide +kernel
theorem dX8_goesText_68 : decode cX8_goesText 68 = .ok (.iconst 0, 1) := by decide +kernel
theorem dX8_goesText_69 : decode cX8_goesText 69 = .ok (.ireturn, 1) := by decide +kernel
theorem dX8_house_0 : decode cX8_house 0 = .ok (.aload_n 0, 1) := by decide +kernel
theorem dX8_house_1 : decode cX8_house 1 = .ok (.getfield 39, 3) := by decide +kernel
theorem dX8_house_4 : decode cX8_house 4 = .ok (.iconst 5, 1) := by decide +kernel
theorem dX8_house_5 : decode cX8_house 5 = .ok (.if_icmp .ne 6, 3) := by decide +kernel
theorem dX8_house_8 : decode cX8_house 8 = .ok (.bipush (-4), 2) := by decide +kernel
theorem dX8_house_10 : decode cX8_house 10 = .ok (.ireturn, 1) := by decide +kernel
theorem dX8_house_11 : decode cX8_house 11 = .ok (.aload_n 0, 1) := by decide +kernel
theorem dX8_house_12 : decode cX8_house 12 = .ok (.aload_n 0, 1) := by decide +kernel
theorem dX8_house_13 : decode cX8_house 13 = .ok (.getfield 39, 3) := by decide +kernel
theorem dX8_house_16 : decode cX8_house 16 = .ok (.invokevirtual 213, 3) := by decide +kernel
theorem dX8_house_19 : decode cX8_house 19 = .ok (.istore_n 1, 1) := by decide +kernel
theorem dX8_house_20 : decode cX8_house 20 = .ok (.aload_n 0, 1) := by decide +kernel
theorem dX8_house_21 : decode cX8_house 21 = .ok (.iconst 0, 1) := by decide +kernel
theorem dX8_house_22 : decode cX8_house 22 = .ok (.putfield 45, 3) := by decide +kernel
theorem dX8_house_25 : decode cX8_house 25 = .ok (.iload_n 1, 1) := by decide +kernel
theorem dX8_house_26 : decode cX8_house 26 = .ok (.ifCond .ne 11, 3) := by decide +kernel
theorem dX8_house_29 : decode cX8_house 29 = .ok (.bipush (-10), 2) := by decide +kernel
theorem dX8_house_31 : decode cX8_house 31 = .ok (.aload_n 0, 1) := by decide +kernel
theorem dX8_house_32 : decode cX8_house 32 = .ok (.getfield 48, 3) := by decide +kernel
theorem dX8_house_35 : decode cX8_house 35 = .ok (.isub, 1) := by decide +kernel
theorem dX8_house_36 : decode cX8_house 36 = .ok (.ireturn, 1) := by decide +kernel
theorem dX8_house_37 : decode cX8_house 37 = .ok (.aload_n 0, 1) := by decide +kernel
theorem dX8_house_38 : decode cX8_house 38 = .ok (.aload_n 0, 1) := by decide +kernel
theorem dX8_house_39 : decode cX8_house 39 = .ok (.getfield 39, 3) := by decide +kernel
theorem dX8_house_42 : decode cX8_house 42 = .ok (.putfield 42, 3) := by decide +kernel
theorem dX8_house_45 : decode cX8_house 45 = .ok (.aload_n 0, 1) := by decide +kernel
theorem dX8_house_46 : decode cX8_house 46 = .ok (.dup, 1) := by decide +kernel
theorem dX8_house_47 : decode cX8_house 47 = .ok (.getfield 39, 3) := by decide +kernel
theorem dX8_house_50 : decode cX8_house 50 = .ok (.iconst 1, 1) := by decide +kernel
theorem dX8_house_51 : decode cX8_house 51 = .ok (.iadd, 1) := by decide +kernel
theorem dX8_house_52 : decode cX8_house 52 = .ok (.putfield 39, 3) := by decide +kernel
theorem dX8_house_55 : decode cX8_house 55 = .ok (.aload_n 0, 1) := by decide +kernel
theorem dX8_house_56 : decode cX8_house 56 = .ok (.getfield 42, 3) := by decide +kernel
theorem dX8_house_59 : decode cX8_house 59 = .ok (.ireturn, 1) := by decide +kernel
theorem dX8_first_0 : decode cX8_first 0 = .ok (.aload_n 0, 1) := by decide +kernel
theorem dX8_first_1 : decode cX8_first 1 = .ok (.getfield 42, 3) := by decide +kernel
theorem dX8_first_4 : decode cX8_first 4 = .ok (.ifCond .ge 7, 3) := by decide +kernel
theorem dX8_first_7 : decode cX8_first 7 = .ok (.iconst 0, 1) := by decide +kernel
theorem dX8_first_8 : decode cX8_first 8 = .ok (.goto 10, 3) := by decide +kernel
theorem dX8_first_11 : decode cX8_first 11 = .ok (.bipush 10, 2) := by decide +kernel
theorem dX8_first_13 : decode cX8_first 13 = .ok (.aload_n 0, 1) := by decide +kernel
theorem dX8_first_14 : decode cX8_first 14 = .ok (.getfield 42, 3) := by decide +kernel
theorem dX8_first_17 : decode cX8_first 17 = .ok (.imul, 1) := by decide +kernel
theorem dX8_first_18 : decode cX8_first 18 = .ok (.ireturn, 1) := by decide +kernel
theorem dX8_behind_0 : decode cX8_behind 0 = .ok (.aload_n 0, 1) := by decide +kernel
theorem dX8_behind_1 : decode cX8_behind 1 = .ok (.getfield 42, 3) := by decide +kernel
theorem dX8_behind_4 : decode cX8_behind 4 = .ok (.ifCond .ge 7, 3) := by decide +kernel
theorem dX8_behind_7 : decode cX8_behind 7 = .ok (.iconst 0, 1) := by decide +kernel
theorem dX8_behind_8 : decode cX8_behind 8 = .ok (.goto 20, 3) := by decide +kernel
theorem dX8_behind_11 : decode cX8_behind 11 = .ok (.bipush 10, 2) := by decide +kernel
theorem dX8_behind_13 : decode cX8_behind 13 = .ok (.aload_n 0, 1) := by decide +kernel
theorem dX8_behind_14 : decode cX8_behind 14 = .ok (.getfield 42, 3) := by decide +kernel
theorem dX8_behind_17 : decode cX8_behind 17 = .ok (.imul, 1) := by decide +kernel
theorem dX8_behind_18 : decode cX8_behind 18 = .ok (.aload_n 0, 1) := by decide +kernel
theorem dX8_behind_19 : decode cX8_behind 19 = .ok (.getfield 57, 3) := by decide +kernel
theorem dX8_behind_22 : decode cX8_behind 22 = .ok (.aload_n 0, 1) := by decide +kernel
theorem dX8_behind_23 : decode cX8_behind 23 = .ok (.getfield 42, 3) := by decide +kernel
theorem dX8_behind_26 : decode cX8_behind 26 = .ok (.iaload, 1) := by decide +kernel
theorem dX8_behind_27 : decode cX8_behind 27 = .ok (.iadd, 1) := by decide +kernel
theorem dX8_behind_28 : decode cX8_behind 28 = .ok (.ireturn, 1) := by decide +kernel
theorem dX8_last_0 : decode cX8_last 0 = .ok (.iload_n 3, 1) := by decide +kernel
theorem dX8_last_1 : decode cX8_last 1 = .ok (.istore 4, 2) := by decide +kernel
theorem dX8_last_3 : decode cX8_last 3 = .ok (.aload_n 0, 1) := by decide +kernel
theorem dX8_last_4 : decode cX8_last 4 = .ok (.invokevirtual 216, 3) := by decide +kernel
theorem dX8_last_7 : decode cX8_last 7 = .ok (.istore 5, 2) := by decide +kernel
theorem dX8_last_9 : decode cX8_last 9 = .ok (.iload 5, 2) := by decide +kernel
theorem dX8_last_11 : decode cX8_last 11 = .ok (.aload_n 0, 1) := by decide +kernel
theorem dX8_last_12 : decode cX8_last 12 = .ok (.invokevirtual 219, 3) := by decide +kernel
theorem dX8_last_15 : decode cX8_last 15 = .ok (.if_icmp .ge 45, 3) := by decide +kernel
theorem dX8_last_18 : decode cX8_last 18 = .ok (.aload_n 0, 1) := by decide +kernel
theorem dX8_last_19 : decode cX8_last 19 = .ok (.getfield 60, 3) := by decide +kernel
theorem dX8_last_22 : decode cX8_last 22 = .ok (.iload 5, 2) := by decide +kernel
theorem dX8_last_24 : decode cX8_last 24 = .ok (.iaload, 1) := by decide +kernel
theorem dX8_last_25 : decode cX8_last 25 = .ok (.iload_n 1, 1) := by decide +kernel
theorem dX8_last_26 : decode cX8_last 26 = .ok (.if_icmp .ne 24, 3) := by decide +kernel
theorem dX8_last_29 : decode cX8_last 29 = .ok (.aload_n 0, 1) := by decide +kernel
theorem dX8_last_30 : decode cX8_last 30 = .ok (.getfield 63, 3) := by decide +kernel
theorem dX8_last_33 : decode cX8_last 33 = .ok (.iload 5, 2) := by decide +kernel
theorem dX8_last_35 : decode cX8_last 35 = .ok (.iaload, 1) := by decide +kernel
theorem dX8_last_36 : decode cX8_last 36 = .ok (.iload_n 2, 1) := by decide +kernel
theorem dX8_last_37 : decode cX8_last 37 = .ok (.if_icmp .ne 13, 3) := by decide +kernel
theorem dX8_last_40 : decode cX8_last 40 = .ok (.aload_n 0, 1) := by decide +kernel
theorem dX8_last_41 : decode cX8_last 41 = .ok (.getfield 66, 3) := by decide +kernel
theorem dX8_last_44 : decode cX8_last 44 = .ok (.iload 5, 2) := by decide +kernel
theorem dX8_last_46 : decode cX8_last 46 = .ok (.iaload, 1) := by decide +kernel
theorem dX8_last_47 : decode cX8_last 47 = .ok (.goto 5, 3) := by decide +kernel
theorem dX8_last_50 : decode cX8_last 50 = .ok (.iload 4, 2) := by decide +kernel
theorem dX8_last_52 : decode cX8_last 52 = .ok (.istore 4, 2) := by decide +kernel
theorem dX8_last_54 : decode cX8_last 54 = .ok (.iinc 5 1, 3) := by decide +kernel
theorem dX8_last_57 : decode cX8_last 57 = .ok (.goto (-48), 3) := by decide +kernel
theorem dX8_last_60 : decode cX8_last 60 = .ok (.iload 4, 2) := by decide +kernel
theorem dX8_last_62 : decode cX8_last 62 = .ok (.ireturn, 1) := by decide +kernel
theorem dX8_lateNow_0 : decode cX8_lateNow 0 = .ok (.aload_n 0, 1) := by decide +kernel
theorem dX8_lateNow_1 : decode cX8_lateNow 1 = .ok (.iconst 2, 1) := by decide +kernel
theorem dX8_lateNow_2 : decode cX8_lateNow 2 = .ok (.iconst 0, 1) := by decide +kernel
theorem dX8_lateNow_3 : decode cX8_lateNow 3 = .ok (.iconst 1, 1) := by decide +kernel
theorem dX8_lateNow_4 : decode cX8_lateNow 4 = .ok (.invokevirtual 222, 3) := by decide +kernel
theorem dX8_lateNow_7 : decode cX8_lateNow 7 = .ok (.ireturn, 1) := by decide +kernel
theorem dX8_hears_0 : decode cX8_hears 0 = .ok (.aload_n 0, 1) := by decide +kernel
theorem dX8_hears_1 : decode cX8_hears 1 = .ok (.iconst 3, 1) := by decide +kernel
theorem dX8_hears_2 : decode cX8_hears 2 = .ok (.bipush 16, 2) := by decide +kernel
theorem dX8_hears_4 : decode cX8_hears 4 = .ok (.iload_n 1, 1) := by decide +kernel
theorem dX8_hears_5 : decode cX8_hears 5 = .ok (.imul, 1) := by decide +kernel
theorem dX8_hears_6 : decode cX8_hears 6 = .ok (.iload_n 2, 1) := by decide +kernel
theorem dX8_hears_7 : decode cX8_hears 7 = .ok (.iadd, 1) := by decide +kernel
theorem dX8_hears_8 : decode cX8_hears 8 = .ok (.iload_n 1, 1) := by decide +kernel
theorem dX8_hears_9 : decode cX8_hears 9 = .ok (.invokevirtual 222, 3) := by decide +kernel
theorem dX8_hears_12 : decode cX8_hears 12 = .ok (.ireturn, 1) := by decide +kernel
theorem dX8_told_0 : decode cX8_told 0 = .ok (.aload_n 0, 1) := by decide +kernel
theorem dX8_told_1 : decode cX8_told 1 = .ok (.iload_n 1, 1) := by decide +kernel
theorem dX8_told_2 : decode cX8_told 2 = .ok (.iconst 0, 1) := by decide +kernel
theorem dX8_told_3 : decode cX8_told 3 = .ok (.bipush 9, 2) := by decide +kernel
theorem dX8_told_5 : decode cX8_told 5 = .ok (.invokevirtual 150, 3) := by decide +kernel
theorem dX8_told_8 : decode cX8_told 8 = .ok (.ifCond .ne 5, 3) := by decide +kernel
theorem dX8_told_11 : decode cX8_told 11 = .ok (.iconst (-1), 1) := by decide +kernel
theorem dX8_told_12 : decode cX8_told 12 = .ok (.ireturn, 1) := by decide +kernel
theorem dX8_told_13 : decode cX8_told 13 = .ok (.iload_n 2, 1) := by decide +kernel
theorem dX8_told_14 : decode cX8_told 14 = .ok (.tableswitch 60 0 3 #[30, 37, 44, 55], 30) := by decide +kernel
theorem dX8_told_44 : decode cX8_told 44 = .ok (.aload_n 0, 1) := by decide +kernel
theorem dX8_told_45 : decode cX8_told 45 = .ok (.iload_n 1, 1) := by decide +kernel
theorem dX8_told_46 : decode cX8_told 46 = .ok (.iconst 0, 1) := by decide +kernel
theorem dX8_told_47 : decode cX8_told 47 = .ok (.invokevirtual 226, 3) := by decide +kernel
theorem dX8_told_50 : decode cX8_told 50 = .ok (.ireturn, 1) := by decide +kernel
theorem dX8_told_51 : decode cX8_told 51 = .ok (.aload_n 0, 1) := by decide +kernel
theorem dX8_told_52 : decode cX8_told 52 = .ok (.iload_n 1, 1) := by decide +kernel
theorem dX8_told_53 : decode cX8_told 53 = .ok (.iconst 1, 1) := by decide +kernel
theorem dX8_told_54 : decode cX8_told 54 = .ok (.invokevirtual 226, 3) := by decide +kernel
theorem dX8_told_57 : decode cX8_told 57 = .ok (.ireturn, 1) := by decide +kernel
theorem dX8_told_58 : decode cX8_told 58 = .ok (.aload_n 0, 1) := by decide +kernel
theorem dX8_told_59 : decode cX8_told 59 = .ok (.iconst 4, 1) := by decide +kernel
theorem dX8_told_60 : decode cX8_told 60 = .ok (.bipush 16, 2) := by decide +kernel
theorem dX8_told_62 : decode cX8_told 62 = .ok (.iload_n 1, 1) := by decide +kernel
theorem dX8_told_63 : decode cX8_told 63 = .ok (.imul, 1) := by decide +kernel
theorem dX8_told_64 : decode cX8_told 64 = .ok (.iload_n 1, 1) := by decide +kernel
theorem dX8_told_65 : decode cX8_told 65 = .ok (.invokevirtual 222, 3) := by decide +kernel
theorem dX8_told_68 : decode cX8_told 68 = .ok (.ireturn, 1) := by decide +kernel
theorem dX8_told_69 : decode cX8_told 69 = .ok (.aload_n 0, 1) := by decide +kernel
theorem dX8_told_70 : decode cX8_told 70 = .ok (.invokevirtual 230, 3) := by decide +kernel
theorem dX8_told_73 : decode cX8_told 73 = .ok (.ireturn, 1) := by decide +kernel
theorem dX8_told_74 : decode cX8_told 74 = .ok (.iconst (-1), 1) := by decide +kernel
theorem dX8_told_75 : decode cX8_told 75 = .ok (.ireturn, 1) := by decide +kernel
theorem dX8_isVoice_0 : decode cX8_isVoice 0 = .ok (.aload_n 0, 1) := by decide +kernel
theorem dX8_isVoice_1 : decode cX8_isVoice 1 = .ok (.iload_n 1, 1) := by decide +kernel
theorem dX8_isVoice_2 : decode cX8_isVoice 2 = .ok (.iconst 0, 1) := by decide +kernel
theorem dX8_isVoice_3 : decode cX8_isVoice 3 = .ok (.aload_n 0, 1) := by decide +kernel
theorem dX8_isVoice_4 : decode cX8_isVoice 4 = .ok (.getfield 93, 3) := by decide +kernel
theorem dX8_isVoice_7 : decode cX8_isVoice 7 = .ok (.iconst 1, 1) := by decide +kernel
theorem dX8_isVoice_8 : decode cX8_isVoice 8 = .ok (.isub, 1) := by decide +kernel
theorem dX8_isVoice_9 : decode cX8_isVoice 9 = .ok (.invokevirtual 150, 3) := by decide +kernel
theorem dX8_isVoice_12 : decode cX8_isVoice 12 = .ok (.ireturn, 1) := by decide +kernel
theorem dX8_voice_0 : decode cX8_voice 0 = .ok (.aload_n 0, 1) := by decide +kernel
theorem dX8_voice_1 : decode cX8_voice 1 = .ok (.iload_n 1, 1) := by decide +kernel
theorem dX8_voice_2 : decode cX8_voice 2 = .ok (.iconst 0, 1) := by decide +kernel
theorem dX8_voice_3 : decode cX8_voice 3 = .ok (.bipush 6, 2) := by decide +kernel
theorem dX8_voice_5 : decode cX8_voice 5 = .ok (.invokevirtual 150, 3) := by decide +kernel
theorem dX8_voice_8 : decode cX8_voice 8 = .ok (.ifCond .ne 5, 3) := by decide +kernel
theorem dX8_voice_11 : decode cX8_voice 11 = .ok (.iconst (-1), 1) := by decide +kernel
theorem dX8_voice_12 : decode cX8_voice 12 = .ok (.ireturn, 1) := by decide +kernel
theorem dX8_voice_13 : decode cX8_voice 13 = .ok (.aload_n 0, 1) := by decide +kernel
theorem dX8_voice_14 : decode cX8_voice 14 = .ok (.iload_n 2, 1) := by decide +kernel
theorem dX8_voice_15 : decode cX8_voice 15 = .ok (.iconst 0, 1) := by decide +kernel
theorem dX8_voice_16 : decode cX8_voice 16 = .ok (.bipush 9, 2) := by decide +kernel
theorem dX8_voice_18 : decode cX8_voice 18 = .ok (.invokevirtual 150, 3) := by decide +kernel
theorem dX8_voice_21 : decode cX8_voice 21 = .ok (.ifCond .ne 6, 3) := by decide +kernel
theorem dX8_voice_24 : decode cX8_voice 24 = .ok (.bipush (-2), 2) := by decide +kernel
theorem dX8_voice_26 : decode cX8_voice 26 = .ok (.ireturn, 1) := by decide +kernel
theorem dX8_voice_27 : decode cX8_voice 27 = .ok (.aload_n 0, 1) := by decide +kernel
theorem dX8_voice_28 : decode cX8_voice 28 = .ok (.getfield 93, 3) := by decide +kernel
theorem dX8_voice_31 : decode cX8_voice 31 = .ok (.bipush 10, 2) := by decide +kernel
theorem dX8_voice_33 : decode cX8_voice 33 = .ok (.if_icmp .ne 6, 3) := by decide +kernel
theorem dX8_voice_36 : decode cX8_voice 36 = .ok (.bipush (-4), 2) := by decide +kernel
theorem dX8_voice_38 : decode cX8_voice 38 = .ok (.ireturn, 1) := by decide +kernel
theorem dX8_voice_39 : decode cX8_voice 39 = .ok (.aload_n 0, 1) := by decide +kernel
theorem dX8_voice_40 : decode cX8_voice 40 = .ok (.getfield 96, 3) := by decide +kernel
theorem dX8_voice_43 : decode cX8_voice 43 = .ok (.aload_n 0, 1) := by decide +kernel
theorem dX8_voice_44 : decode cX8_voice 44 = .ok (.getfield 93, 3) := by decide +kernel
theorem dX8_voice_47 : decode cX8_voice 47 = .ok (.iload_n 1, 1) := by decide +kernel
theorem dX8_voice_48 : decode cX8_voice 48 = .ok (.iastore, 1) := by decide +kernel
theorem dX8_voice_49 : decode cX8_voice 49 = .ok (.aload_n 0, 1) := by decide +kernel
theorem dX8_voice_50 : decode cX8_voice 50 = .ok (.getfield 99, 3) := by decide +kernel
theorem dX8_voice_53 : decode cX8_voice 53 = .ok (.aload_n 0, 1) := by decide +kernel
theorem dX8_voice_54 : decode cX8_voice 54 = .ok (.getfield 93, 3) := by decide +kernel
theorem dX8_voice_57 : decode cX8_voice 57 = .ok (.iload_n 2, 1) := by decide +kernel
theorem dX8_voice_58 : decode cX8_voice 58 = .ok (.iastore, 1) := by decide +kernel
theorem dX8_voice_59 : decode cX8_voice 59 = .ok (.aload_n 0, 1) := by decide +kernel
theorem dX8_voice_60 : decode cX8_voice 60 = .ok (.dup, 1) := by decide +kernel
theorem dX8_voice_61 : decode cX8_voice 61 = .ok (.getfield 93, 3) := by decide +kernel
theorem dX8_voice_64 : decode cX8_voice 64 = .ok (.iconst 1, 1) := by decide +kernel
theorem dX8_voice_65 : decode cX8_voice 65 = .ok (.iadd, 1) := by decide +kernel
theorem dX8_voice_66 : decode cX8_voice 66 = .ok (.putfield 93, 3) := by decide +kernel
theorem dX8_voice_69 : decode cX8_voice 69 = .ok (.aload_n 0, 1) := by decide +kernel
theorem dX8_voice_70 : decode cX8_voice 70 = .ok (.getfield 93, 3) := by decide +kernel
theorem dX8_voice_73 : decode cX8_voice 73 = .ok (.iconst 1, 1) := by decide +kernel
theorem dX8_voice_74 : decode cX8_voice 74 = .ok (.isub, 1) := by decide +kernel
theorem dX8_voice_75 : decode cX8_voice 75 = .ok (.ireturn, 1) := by decide +kernel
theorem dX8_isSaid_0 : decode cX8_isSaid 0 = .ok (.iload_n 1, 1) := by decide +kernel
theorem dX8_isSaid_1 : decode cX8_isSaid 1 = .ok (.iconst 2, 1) := by decide +kernel
theorem dX8_isSaid_2 : decode cX8_isSaid 2 = .ok (.aload_n 0, 1) := by decide +kernel
theorem dX8_isSaid_3 : decode cX8_isSaid 3 = .ok (.getfield 19, 3) := by decide +kernel
theorem dX8_isSaid_6 : decode cX8_isSaid 6 = .ok (.imul, 1) := by decide +kernel
theorem dX8_isSaid_7 : decode cX8_isSaid 7 = .ok (.if_icmp .ge 7, 3) := by decide +kernel
theorem dX8_isSaid_10 : decode cX8_isSaid 10 = .ok (.iconst 1, 1) := by decide +kernel
theorem dX8_isSaid_11 : decode cX8_isSaid 11 = .ok (.goto 4, 3) := by decide +kernel
theorem dX8_isSaid_14 : decode cX8_isSaid 14 = .ok (.iconst 0, 1) := by decide +kernel
theorem dX8_isSaid_15 : decode cX8_isSaid 15 = .ok (.ireturn, 1) := by decide +kernel
theorem dX8_factOf_0 : decode cX8_factOf 0 = .ok (.iload_n 1, 1) := by decide +kernel
theorem dX8_factOf_1 : decode cX8_factOf 1 = .ok (.tableswitch 84 0 3 #[31, 38, 53, 60], 31) := by decide +kernel
theorem dX8_factOf_32 : decode cX8_factOf 32 = .ok (.aload_n 0, 1) := by decide +kernel
theorem dX8_factOf_33 : decode cX8_factOf 33 = .ok (.getfield 29, 3) := by decide +kernel
theorem dX8_factOf_36 : decode cX8_factOf 36 = .ok (.iload_n 3, 1) := by decide +kernel
theorem dX8_factOf_37 : decode cX8_factOf 37 = .ok (.iaload, 1) := by decide +kernel
theorem dX8_factOf_38 : decode cX8_factOf 38 = .ok (.ireturn, 1) := by decide +kernel
theorem dX8_factOf_39 : decode cX8_factOf 39 = .ok (.aload_n 0, 1) := by decide +kernel
theorem dX8_factOf_40 : decode cX8_factOf 40 = .ok (.aload_n 0, 1) := by decide +kernel
theorem dX8_factOf_41 : decode cX8_factOf 41 = .ok (.getfield 33, 3) := by decide +kernel
theorem dX8_factOf_44 : decode cX8_factOf 44 = .ok (.iload_n 3, 1) := by decide +kernel
theorem dX8_factOf_45 : decode cX8_factOf 45 = .ok (.iaload, 1) := by decide +kernel
theorem dX8_factOf_46 : decode cX8_factOf 46 = .ok (.aload_n 0, 1) := by decide +kernel
theorem dX8_factOf_47 : decode cX8_factOf 47 = .ok (.getfield 7, 3) := by decide +kernel
theorem dX8_factOf_50 : decode cX8_factOf 50 = .ok (.invokevirtual 233, 3) := by decide +kernel
theorem dX8_factOf_53 : decode cX8_factOf 53 = .ok (.ireturn, 1) := by decide +kernel
theorem dX8_factOf_54 : decode cX8_factOf 54 = .ok (.aload_n 0, 1) := by decide +kernel
theorem dX8_factOf_55 : decode cX8_factOf 55 = .ok (.getfield 96, 3) := by decide +kernel
theorem dX8_factOf_58 : decode cX8_factOf 58 = .ok (.iload_n 2, 1) := by decide +kernel
theorem dX8_factOf_59 : decode cX8_factOf 59 = .ok (.iaload, 1) := by decide +kernel
theorem dX8_factOf_60 : decode cX8_factOf 60 = .ok (.ireturn, 1) := by decide +kernel
theorem dX8_factOf_61 : decode cX8_factOf 61 = .ok (.aload_n 0, 1) := by decide +kernel
theorem dX8_factOf_62 : decode cX8_factOf 62 = .ok (.iload 4, 2) := by decide +kernel
theorem dX8_factOf_64 : decode cX8_factOf 64 = .ok (.invokevirtual 236, 3) := by decide +kernel
theorem dX8_factOf_67 : decode cX8_factOf 67 = .ok (.ifCond .eq 15, 3) := by decide +kernel
theorem dX8_factOf_70 : decode cX8_factOf 70 = .ok (.aload_n 0, 1) := by decide +kernel
theorem dX8_factOf_71 : decode cX8_factOf 71 = .ok (.getfield 36, 3) := by decide +kernel
theorem dX8_factOf_74 : decode cX8_factOf 74 = .ok (.iload 4, 2) := by decide +kernel
theorem dX8_factOf_76 : decode cX8_factOf 76 = .ok (.iconst 2, 1) := by decide +kernel
theorem dX8_factOf_77 : decode cX8_factOf 77 = .ok (.idiv, 1) := by decide +kernel
theorem dX8_factOf_78 : decode cX8_factOf 78 = .ok (.iaload, 1) := by decide +kernel
theorem dX8_factOf_79 : decode cX8_factOf 79 = .ok (.goto 5, 3) := by decide +kernel
theorem dX8_factOf_82 : decode cX8_factOf 82 = .ok (.bipush 99, 2) := by decide +kernel
theorem dX8_factOf_84 : decode cX8_factOf 84 = .ok (.ireturn, 1) := by decide +kernel
theorem dX8_factOf_85 : decode cX8_factOf 85 = .ok (.iload 4, 2) := by decide +kernel
theorem dX8_factOf_87 : decode cX8_factOf 87 = .ok (.ireturn, 1) := by decide +kernel
theorem dX8_holds_0 : decode cX8_holds 0 = .ok (.iconst 0, 1) := by decide +kernel
theorem dX8_holds_1 : decode cX8_holds 1 = .ok (.istore 5, 2) := by decide +kernel
theorem dX8_holds_3 : decode cX8_holds 3 = .ok (.aload_n 0, 1) := by decide +kernel
theorem dX8_holds_4 : decode cX8_holds 4 = .ok (.getfield 69, 3) := by decide +kernel
theorem dX8_holds_7 : decode cX8_holds 7 = .ok (.iload_n 1, 1) := by decide +kernel
theorem dX8_holds_8 : decode cX8_holds 8 = .ok (.iaload, 1) := by decide +kernel
theorem dX8_holds_9 : decode cX8_holds 9 = .ok (.istore 6, 2) := by decide +kernel
theorem dX8_holds_11 : decode cX8_holds 11 = .ok (.iload 6, 2) := by decide +kernel
theorem dX8_holds_13 : decode cX8_holds 13 = .ok (.aload_n 0, 1) := by decide +kernel
theorem dX8_holds_14 : decode cX8_holds 14 = .ok (.getfield 72, 3) := by decide +kernel
theorem dX8_holds_17 : decode cX8_holds 17 = .ok (.iload_n 1, 1) := by decide +kernel
theorem dX8_holds_18 : decode cX8_holds 18 = .ok (.iaload, 1) := by decide +kernel
theorem dX8_holds_19 : decode cX8_holds 19 = .ok (.if_icmp .ge 236, 3) := by decide +kernel
theorem dX8_holds_22 : decode cX8_holds 22 = .ok (.aload_n 0, 1) := by decide +kernel
theorem dX8_holds_23 : decode cX8_holds 23 = .ok (.getfield 75, 3) := by decide +kernel
theorem dX8_holds_26 : decode cX8_holds 26 = .ok (.iload 6, 2) := by decide +kernel
theorem dX8_holds_28 : decode cX8_holds 28 = .ok (.iaload, 1) := by decide +kernel
theorem dX8_holds_29 : decode cX8_holds 29 = .ok (.istore 7, 2) := by decide +kernel
theorem dX8_holds_31 : decode cX8_holds 31 = .ok (.iload 7, 2) := by decide +kernel
theorem dX8_holds_33 : decode cX8_holds 33 = .ok (.bipush (-33), 2) := by decide +kernel
theorem dX8_holds_35 : decode cX8_holds 35 = .ok (.if_icmp .ne 32, 3) := by decide +kernel
theorem dX8_holds_38 : decode cX8_holds 38 = .ok (.aload_n 0, 1) := by decide +kernel
theorem dX8_holds_39 : decode cX8_holds 39 = .ok (.getfield 102, 3) := by decide +kernel
theorem dX8_holds_42 : decode cX8_holds 42 = .ok (.iload 5, 2) := by decide +kernel
theorem dX8_holds_44 : decode cX8_holds 44 = .ok (.iconst 1, 1) := by decide +kernel
theorem dX8_holds_45 : decode cX8_holds 45 = .ok (.isub, 1) := by decide +kernel
theorem dX8_holds_46 : decode cX8_holds 46 = .ok (.aload_n 0, 1) := by decide +kernel
theorem dX8_holds_47 : decode cX8_holds 47 = .ok (.getfield 102, 3) := by decide +kernel
theorem dX8_holds_50 : decode cX8_holds 50 = .ok (.iload 5, 2) := by decide +kernel
theorem dX8_holds_52 : decode cX8_holds 52 = .ok (.iconst 1, 1) := by decide +kernel
theorem dX8_holds_53 : decode cX8_holds 53 = .ok (.isub, 1) := by decide +kernel
theorem dX8_holds_54 : decode cX8_holds 54 = .ok (.baload, 1) := by decide +kernel
theorem dX8_holds_55 : decode cX8_holds 55 = .ok (.ifCond .ne 7, 3) := by decide +kernel
theorem dX8_holds_58 : decode cX8_holds 58 = .ok (.iconst 1, 1) := by decide +kernel
theorem dX8_holds_59 : decode cX8_holds 59 = .ok (.goto 4, 3) := by decide +kernel
theorem dX8_holds_62 : decode cX8_holds 62 = .ok (.iconst 0, 1) := by decide +kernel
theorem dX8_holds_63 : decode cX8_holds 63 = .ok (.bastore, 1) := by decide +kernel
theorem dX8_holds_64 : decode cX8_holds 64 = .ok (.goto 185, 3) := by decide +kernel
theorem dX8_holds_67 : decode cX8_holds 67 = .ok (.iload 7, 2) := by decide +kernel
theorem dX8_holds_69 : decode cX8_holds 69 = .ok (.ifCond .ge 82, 3) := by decide +kernel
theorem dX8_holds_72 : decode cX8_holds 72 = .ok (.iinc 5 (-1), 3) := by decide +kernel
theorem dX8_holds_75 : decode cX8_holds 75 = .ok (.aload_n 0, 1) := by decide +kernel
theorem dX8_holds_76 : decode cX8_holds 76 = .ok (.getfield 102, 3) := by decide +kernel
theorem dX8_holds_79 : decode cX8_holds 79 = .ok (.iload 5, 2) := by decide +kernel
theorem dX8_holds_81 : decode cX8_holds 81 = .ok (.iconst 1, 1) := by decide +kernel
theorem dX8_holds_82 : decode cX8_holds 82 = .ok (.isub, 1) := by decide +kernel
theorem dX8_holds_83 : decode cX8_holds 83 = .ok (.iload 7, 2) := by decide +kernel
theorem dX8_holds_85 : decode cX8_holds 85 = .ok (.bipush (-38), 2) := by decide +kernel
theorem dX8_holds_87 : decode cX8_holds 87 = .ok (.if_icmp .ne 33, 3) := by decide +kernel
theorem dX8_holds_90 : decode cX8_holds 90 = .ok (.aload_n 0, 1) := by decide +kernel
theorem dX8_holds_91 : decode cX8_holds 91 = .ok (.getfield 102, 3) := by decide +kernel
theorem dX8_holds_94 : decode cX8_holds 94 = .ok (.iload 5, 2) := by decide +kernel
theorem dX8_holds_96 : decode cX8_holds 96 = .ok (.iconst 1, 1) := by decide +kernel
theorem dX8_holds_97 : decode cX8_holds 97 = .ok (.isub, 1) := by decide +kernel
theorem dX8_holds_98 : decode cX8_holds 98 = .ok (.baload, 1) := by decide +kernel
theorem dX8_holds_99 : decode cX8_holds 99 = .ok (.ifCond .eq 17, 3) := by decide +kernel
theorem dX8_holds_102 : decode cX8_holds 102 = .ok (.aload_n 0, 1) := by decide +kernel
theorem dX8_holds_103 : decode cX8_holds 103 = .ok (.getfield 102, 3) := by decide +kernel
theorem dX8_holds_106 : decode cX8_holds 106 = .ok (.iload 5, 2) := by decide +kernel
theorem dX8_holds_108 : decode cX8_holds 108 = .ok (.baload, 1) := by decide +kernel
theorem dX8_holds_109 : decode cX8_holds 109 = .ok (.ifCond .eq 7, 3) := by decide +kernel
theorem dX8_holds_112 : decode cX8_holds 112 = .ok (.iconst 1, 1) := by decide +kernel
theorem dX8_holds_113 : decode cX8_holds 113 = .ok (.goto 34, 3) := by decide +kernel
theorem dX8_holds_116 : decode cX8_holds 116 = .ok (.iconst 0, 1) := by decide +kernel
theorem dX8_holds_117 : decode cX8_holds 117 = .ok (.goto 30, 3) := by decide +kernel
theorem dX8_holds_120 : decode cX8_holds 120 = .ok (.aload_n 0, 1) := by decide +kernel
theorem dX8_holds_121 : decode cX8_holds 121 = .ok (.getfield 102, 3) := by decide +kernel
theorem dX8_holds_124 : decode cX8_holds 124 = .ok (.iload 5, 2) := by decide +kernel
theorem dX8_holds_126 : decode cX8_holds 126 = .ok (.iconst 1, 1) := by decide +kernel
theorem dX8_holds_127 : decode cX8_holds 127 = .ok (.isub, 1) := by decide +kernel
theorem dX8_holds_128 : decode cX8_holds 128 = .ok (.baload, 1) := by decide +kernel
theorem dX8_holds_129 : decode cX8_holds 129 = .ok (.ifCond .ne 13, 3) := by decide +kernel
theorem dX8_holds_132 : decode cX8_holds 132 = .ok (.aload_n 0, 1) := by decide +kernel
theorem dX8_holds_133 : decode cX8_holds 133 = .ok (.getfield 102, 3) := by decide +kernel
theorem dX8_holds_136 : decode cX8_holds 136 = .ok (.iload 5, 2) := by decide +kernel
theorem dX8_holds_138 : decode cX8_holds 138 = .ok (.baload, 1) := by decide +kernel
theorem dX8_holds_139 : decode cX8_holds 139 = .ok (.ifCond .eq 7, 3) := by decide +kernel
theorem dX8_holds_142 : decode cX8_holds 142 = .ok (.iconst 1, 1) := by decide +kernel
theorem dX8_holds_143 : decode cX8_holds 143 = .ok (.goto 4, 3) := by decide +kernel
theorem dX8_holds_146 : decode cX8_holds 146 = .ok (.iconst 0, 1) := by decide +kernel
theorem dX8_holds_147 : decode cX8_holds 147 = .ok (.bastore, 1) := by decide +kernel
theorem dX8_holds_148 : decode cX8_holds 148 = .ok (.goto 101, 3) := by decide +kernel
theorem dX8_holds_151 : decode cX8_holds 151 = .ok (.aload_n 0, 1) := by decide +kernel
theorem dX8_holds_152 : decode cX8_holds 152 = .ok (.iload 7, 2) := by decide +kernel
theorem dX8_holds_154 : decode cX8_holds 154 = .ok (.sipush 1000, 3) := by decide +kernel
theorem dX8_holds_157 : decode cX8_holds 157 = .ok (.idiv, 1) := by decide +kernel
theorem dX8_holds_158 : decode cX8_holds 158 = .ok (.iload_n 2, 1) := by decide +kernel
theorem dX8_holds_159 : decode cX8_holds 159 = .ok (.iload_n 3, 1) := by decide +kernel
theorem dX8_holds_160 : decode cX8_holds 160 = .ok (.iload 4, 2) := by decide +kernel
theorem dX8_holds_162 : decode cX8_holds 162 = .ok (.invokevirtual 239, 3) := by decide +kernel
theorem dX8_holds_165 : decode cX8_holds 165 = .ok (.istore 8, 2) := by decide +kernel
theorem dX8_holds_167 : decode cX8_holds 167 = .ok (.iload 7, 2) := by decide +kernel
theorem dX8_holds_169 : decode cX8_holds 169 = .ok (.bipush 100, 2) := by decide +kernel
theorem dX8_holds_171 : decode cX8_holds 171 = .ok (.idiv, 1) := by decide +kernel
theorem dX8_holds_172 : decode cX8_holds 172 = .ok (.bipush 10, 2) := by decide +kernel
theorem dX8_holds_174 : decode cX8_holds 174 = .ok (.irem, 1) := by decide +kernel
theorem dX8_holds_175 : decode cX8_holds 175 = .ok (.istore 9, 2) := by decide +kernel
theorem dX8_holds_177 : decode cX8_holds 177 = .ok (.aload_n 0, 1) := by decide +kernel
theorem dX8_holds_178 : decode cX8_holds 178 = .ok (.getfield 102, 3) := by decide +kernel
theorem dX8_holds_181 : decode cX8_holds 181 = .ok (.iload 5, 2) := by decide +kernel
theorem dX8_holds_183 : decode cX8_holds 183 = .ok (.iload 9, 2) := by decide +kernel
theorem dX8_holds_185 : decode cX8_holds 185 = .ok (.ifCond .ne 21, 3) := by decide +kernel
theorem dX8_holds_188 : decode cX8_holds 188 = .ok (.iload 8, 2) := by decide +kernel
theorem dX8_holds_190 : decode cX8_holds 190 = .ok (.iload 7, 2) := by decide +kernel
theorem dX8_holds_192 : decode cX8_holds 192 = .ok (.bipush 100, 2) := by decide +kernel
theorem dX8_holds_194 : decode cX8_holds 194 = .ok (.irem, 1) := by decide +kernel
theorem dX8_holds_195 : decode cX8_holds 195 = .ok (.if_icmp .ge 7, 3) := by decide +kernel
theorem dX8_holds_198 : decode cX8_holds 198 = .ok (.iconst 1, 1) := by decide +kernel
theorem dX8_holds_199 : decode cX8_holds 199 = .ok (.goto 46, 3) := by decide +kernel
theorem dX8_holds_202 : decode cX8_holds 202 = .ok (.iconst 0, 1) := by decide +kernel
theorem dX8_holds_203 : decode cX8_holds 203 = .ok (.goto 42, 3) := by decide +kernel
theorem dX8_holds_206 : decode cX8_holds 206 = .ok (.iload 9, 2) := by decide +kernel
theorem dX8_holds_208 : decode cX8_holds 208 = .ok (.iconst 1, 1) := by decide +kernel
theorem dX8_holds_209 : decode cX8_holds 209 = .ok (.if_icmp .ne 21, 3) := by decide +kernel
theorem dX8_holds_212 : decode cX8_holds 212 = .ok (.iload 8, 2) := by decide +kernel
theorem dX8_holds_214 : decode cX8_holds 214 = .ok (.iload 7, 2) := by decide +kernel
theorem dX8_holds_216 : decode cX8_holds 216 = .ok (.bipush 100, 2) := by decide +kernel
theorem dX8_holds_218 : decode cX8_holds 218 = .ok (.irem, 1) := by decide +kernel
theorem dX8_holds_219 : decode cX8_holds 219 = .ok (.if_icmp .ne 7, 3) := by decide +kernel
theorem dX8_holds_222 : decode cX8_holds 222 = .ok (.iconst 1, 1) := by decide +kernel
theorem dX8_holds_223 : decode cX8_holds 223 = .ok (.goto 22, 3) := by decide +kernel
theorem dX8_holds_226 : decode cX8_holds 226 = .ok (.iconst 0, 1) := by decide +kernel
theorem dX8_holds_227 : decode cX8_holds 227 = .ok (.goto 18, 3) := by decide +kernel
theorem dX8_holds_230 : decode cX8_holds 230 = .ok (.iload 8, 2) := by decide +kernel
theorem dX8_holds_232 : decode cX8_holds 232 = .ok (.iload 7, 2) := by decide +kernel
theorem dX8_holds_234 : decode cX8_holds 234 = .ok (.bipush 100, 2) := by decide +kernel
theorem dX8_holds_236 : decode cX8_holds 236 = .ok (.irem, 1) := by decide +kernel
theorem dX8_holds_237 : decode cX8_holds 237 = .ok (.if_icmp .le 7, 3) := by decide +kernel
theorem dX8_holds_240 : decode cX8_holds 240 = .ok (.iconst 1, 1) := by decide +kernel
theorem dX8_holds_241 : decode cX8_holds 241 = .ok (.goto 4, 3) := by decide +kernel
theorem dX8_holds_244 : decode cX8_holds 244 = .ok (.iconst 0, 1) := by decide +kernel
theorem dX8_holds_245 : decode cX8_holds 245 = .ok (.bastore, 1) := by decide +kernel
theorem dX8_holds_246 : decode cX8_holds 246 = .ok (.iinc 5 1, 3) := by decide +kernel
theorem dX8_holds_249 : decode cX8_holds 249 = .ok (.iinc 6 1, 3) := by decide +kernel
theorem dX8_holds_252 : decode cX8_holds 252 = .ok (.goto (-241), 3) := by decide +kernel
theorem dX8_holds_255 : decode cX8_holds 255 = .ok (.aload_n 0, 1) := by decide +kernel
theorem dX8_holds_256 : decode cX8_holds 256 = .ok (.getfield 102, 3) := by decide +kernel
theorem dX8_holds_259 : decode cX8_holds 259 = .ok (.iconst 0, 1) := by decide +kernel
theorem dX8_holds_260 : decode cX8_holds 260 = .ok (.baload, 1) := by decide +kernel
theorem dX8_holds_261 : decode cX8_holds 261 = .ok (.ireturn, 1) := by decide +kernel
theorem dX8_unsure_0 : decode cX8_unsure 0 = .ok (.iconst 1, 1) := by decide +kernel
theorem dX8_unsure_1 : decode cX8_unsure 1 = .ok (.istore 5, 2) := by decide +kernel
theorem dX8_unsure_3 : decode cX8_unsure 3 = .ok (.aload_n 0, 1) := by decide +kernel
theorem dX8_unsure_4 : decode cX8_unsure 4 = .ok (.invokevirtual 216, 3) := by decide +kernel
theorem dX8_unsure_7 : decode cX8_unsure 7 = .ok (.istore 6, 2) := by decide +kernel
theorem dX8_unsure_9 : decode cX8_unsure 9 = .ok (.iload 6, 2) := by decide +kernel
theorem dX8_unsure_11 : decode cX8_unsure 11 = .ok (.aload_n 0, 1) := by decide +kernel
theorem dX8_unsure_12 : decode cX8_unsure 12 = .ok (.invokevirtual 219, 3) := by decide +kernel
theorem dX8_unsure_15 : decode cX8_unsure 15 = .ok (.if_icmp .ge 49, 3) := by decide +kernel
theorem dX8_unsure_18 : decode cX8_unsure 18 = .ok (.iload 5, 2) := by decide +kernel
theorem dX8_unsure_20 : decode cX8_unsure 20 = .ok (.aload_n 0, 1) := by decide +kernel
theorem dX8_unsure_21 : decode cX8_unsure 21 = .ok (.getfield 60, 3) := by decide +kernel
theorem dX8_unsure_24 : decode cX8_unsure 24 = .ok (.iload 6, 2) := by decide +kernel
theorem dX8_unsure_26 : decode cX8_unsure 26 = .ok (.iaload, 1) := by decide +kernel
theorem dX8_unsure_27 : decode cX8_unsure 27 = .ok (.iload_n 1, 1) := by decide +kernel
theorem dX8_unsure_28 : decode cX8_unsure 28 = .ok (.if_icmp .ne 26, 3) := by decide +kernel
theorem dX8_unsure_31 : decode cX8_unsure 31 = .ok (.aload_n 0, 1) := by decide +kernel
theorem dX8_unsure_32 : decode cX8_unsure 32 = .ok (.iload 6, 2) := by decide +kernel
theorem dX8_unsure_34 : decode cX8_unsure 34 = .ok (.iload_n 2, 1) := by decide +kernel
theorem dX8_unsure_35 : decode cX8_unsure 35 = .ok (.iload_n 3, 1) := by decide +kernel
theorem dX8_unsure_36 : decode cX8_unsure 36 = .ok (.iload 4, 2) := by decide +kernel
theorem dX8_unsure_38 : decode cX8_unsure 38 = .ok (.invokevirtual 243, 3) := by decide +kernel
theorem dX8_unsure_41 : decode cX8_unsure 41 = .ok (.ifCond .eq 13, 3) := by decide +kernel
theorem dX8_unsure_44 : decode cX8_unsure 44 = .ok (.aload_n 0, 1) := by decide +kernel
theorem dX8_unsure_45 : decode cX8_unsure 45 = .ok (.getfield 66, 3) := by decide +kernel
theorem dX8_unsure_48 : decode cX8_unsure 48 = .ok (.iload 6, 2) := by decide +kernel
theorem dX8_unsure_50 : decode cX8_unsure 50 = .ok (.iaload, 1) := by decide +kernel
theorem dX8_unsure_51 : decode cX8_unsure 51 = .ok (.goto 4, 3) := by decide +kernel
theorem dX8_unsure_54 : decode cX8_unsure 54 = .ok (.iconst 0, 1) := by decide +kernel
theorem dX8_unsure_55 : decode cX8_unsure 55 = .ok (.iadd, 1) := by decide +kernel
theorem dX8_unsure_56 : decode cX8_unsure 56 = .ok (.istore 5, 2) := by decide +kernel
theorem dX8_unsure_58 : decode cX8_unsure 58 = .ok (.iinc 6 1, 3) := by decide +kernel
theorem dX8_unsure_61 : decode cX8_unsure 61 = .ok (.goto (-52), 3) := by decide +kernel
theorem dX8_unsure_64 : decode cX8_unsure 64 = .ok (.aload_n 0, 1) := by decide +kernel
theorem dX8_unsure_65 : decode cX8_unsure 65 = .ok (.bipush 60, 2) := by decide +kernel
theorem dX8_unsure_67 : decode cX8_unsure 67 = .ok (.iload 5, 2) := by decide +kernel
theorem dX8_unsure_69 : decode cX8_unsure 69 = .ok (.invokevirtual 247, 3) := by decide +kernel
theorem dX8_unsure_72 : decode cX8_unsure 72 = .ok (.ireturn, 1) := by decide +kernel
theorem dX8_earOf_0 : decode cX8_earOf 0 = .ok (.aload_n 0, 1) := by decide +kernel
theorem dX8_earOf_1 : decode cX8_earOf 1 = .ok (.iconst 0, 1) := by decide +kernel
theorem dX8_earOf_2 : decode cX8_earOf 2 = .ok (.iload_n 1, 1) := by decide +kernel
theorem dX8_earOf_3 : decode cX8_earOf 3 = .ok (.iload_n 2, 1) := by decide +kernel
theorem dX8_earOf_4 : decode cX8_earOf 4 = .ok (.iload_n 3, 1) := by decide +kernel
theorem dX8_earOf_5 : decode cX8_earOf 5 = .ok (.invokevirtual 250, 3) := by decide +kernel
theorem dX8_earOf_8 : decode cX8_earOf 8 = .ok (.istore 4, 2) := by decide +kernel
theorem dX8_earOf_10 : decode cX8_earOf 10 = .ok (.aload_n 0, 1) := by decide +kernel
theorem dX8_earOf_11 : decode cX8_earOf 11 = .ok (.getfield 96, 3) := by decide +kernel
theorem dX8_earOf_14 : decode cX8_earOf 14 = .ok (.iload_n 1, 1) := by decide +kernel
theorem dX8_earOf_15 : decode cX8_earOf 15 = .ok (.iaload, 1) := by decide +kernel
theorem dX8_earOf_16 : decode cX8_earOf 16 = .ok (.iconst 2, 1) := by decide +kernel
theorem dX8_earOf_17 : decode cX8_earOf 17 = .ok (.if_icmp .eq 13, 3) := by decide +kernel
theorem dX8_earOf_20 : decode cX8_earOf 20 = .ok (.aload_n 0, 1) := by decide +kernel
theorem dX8_earOf_21 : decode cX8_earOf 21 = .ok (.getfield 96, 3) := by decide +kernel
theorem dX8_earOf_24 : decode cX8_earOf 24 = .ok (.iload_n 1, 1) := by decide +kernel
theorem dX8_earOf_25 : decode cX8_earOf 25 = .ok (.iaload, 1) := by decide +kernel
theorem dX8_earOf_26 : decode cX8_earOf 26 = .ok (.iconst 5, 1) := by decide +kernel
theorem dX8_earOf_27 : decode cX8_earOf 27 = .ok (.if_icmp .ne 15, 3) := by decide +kernel
theorem dX8_earOf_30 : decode cX8_earOf 30 = .ok (.iload 4, 2) := by decide +kernel
theorem dX8_earOf_32 : decode cX8_earOf 32 = .ok (.aload_n 0, 1) := by decide +kernel
theorem dX8_earOf_33 : decode cX8_earOf 33 = .ok (.getfield 99, 3) := by decide +kernel
theorem dX8_earOf_36 : decode cX8_earOf 36 = .ok (.iload_n 1, 1) := by decide +kernel
theorem dX8_earOf_37 : decode cX8_earOf 37 = .ok (.iaload, 1) := by decide +kernel
theorem dX8_earOf_38 : decode cX8_earOf 38 = .ok (.iadd, 1) := by decide +kernel
theorem dX8_earOf_39 : decode cX8_earOf 39 = .ok (.goto 33, 3) := by decide +kernel
theorem dX8_earOf_42 : decode cX8_earOf 42 = .ok (.aload_n 0, 1) := by decide +kernel
theorem dX8_earOf_43 : decode cX8_earOf 43 = .ok (.getfield 96, 3) := by decide +kernel
theorem dX8_earOf_46 : decode cX8_earOf 46 = .ok (.iload_n 1, 1) := by decide +kernel
theorem dX8_earOf_47 : decode cX8_earOf 47 = .ok (.iaload, 1) := by decide +kernel
theorem dX8_earOf_48 : decode cX8_earOf 48 = .ok (.iconst 3, 1) := by decide +kernel
theorem dX8_earOf_49 : decode cX8_earOf 49 = .ok (.if_icmp .eq 14, 3) := by decide +kernel
theorem dX8_earOf_52 : decode cX8_earOf 52 = .ok (.aload_n 0, 1) := by decide +kernel
theorem dX8_earOf_53 : decode cX8_earOf 53 = .ok (.getfield 96, 3) := by decide +kernel
theorem dX8_earOf_56 : decode cX8_earOf 56 = .ok (.iload_n 1, 1) := by decide +kernel
theorem dX8_earOf_57 : decode cX8_earOf 57 = .ok (.iaload, 1) := by decide +kernel
theorem dX8_earOf_58 : decode cX8_earOf 58 = .ok (.bipush 6, 2) := by decide +kernel
theorem dX8_earOf_60 : decode cX8_earOf 60 = .ok (.if_icmp .ne 10, 3) := by decide +kernel
theorem dX8_earOf_63 : decode cX8_earOf 63 = .ok (.iconst 2, 1) := by decide +kernel
theorem dX8_earOf_64 : decode cX8_earOf 64 = .ok (.iload 4, 2) := by decide +kernel
theorem dX8_earOf_66 : decode cX8_earOf 66 = .ok (.imul, 1) := by decide +kernel
theorem dX8_earOf_67 : decode cX8_earOf 67 = .ok (.goto 5, 3) := by decide +kernel
theorem dX8_earOf_70 : decode cX8_earOf 70 = .ok (.iload 4, 2) := by decide +kernel
theorem dX8_earOf_72 : decode cX8_earOf 72 = .ok (.ireturn, 1) := by decide +kernel
theorem dX8_soundsOf_0 : decode cX8_soundsOf 0 = .ok (.aload_n 0, 1) := by decide +kernel
theorem dX8_soundsOf_1 : decode cX8_soundsOf 1 = .ok (.getfield 96, 3) := by decide +kernel
theorem dX8_soundsOf_4 : decode cX8_soundsOf 4 = .ok (.iload_n 1, 1) := by decide +kernel
theorem dX8_soundsOf_5 : decode cX8_soundsOf 5 = .ok (.iaload, 1) := by decide +kernel
theorem dX8_soundsOf_6 : decode cX8_soundsOf 6 = .ok (.istore_n 3, 1) := by decide +kernel
theorem dX8_soundsOf_7 : decode cX8_soundsOf 7 = .ok (.iload_n 3, 1) := by decide +kernel
theorem dX8_soundsOf_8 : decode cX8_soundsOf 8 = .ok (.iconst 1, 1) := by decide +kernel
theorem dX8_soundsOf_9 : decode cX8_soundsOf 9 = .ok (.if_icmp .eq 8, 3) := by decide +kernel
theorem dX8_soundsOf_12 : decode cX8_soundsOf 12 = .ok (.iload_n 3, 1) := by decide +kernel
theorem dX8_soundsOf_13 : decode cX8_soundsOf 13 = .ok (.iconst 4, 1) := by decide +kernel
theorem dX8_soundsOf_14 : decode cX8_soundsOf 14 = .ok (.if_icmp .ne 50, 3) := by decide +kernel
theorem dX8_soundsOf_17 : decode cX8_soundsOf 17 = .ok (.aload_n 0, 1) := by decide +kernel
theorem dX8_soundsOf_18 : decode cX8_soundsOf 18 = .ok (.aload_n 0, 1) := by decide +kernel
theorem dX8_soundsOf_19 : decode cX8_soundsOf 19 = .ok (.getfield 99, 3) := by decide +kernel
theorem dX8_soundsOf_22 : decode cX8_soundsOf 22 = .ok (.iload_n 1, 1) := by decide +kernel
theorem dX8_soundsOf_23 : decode cX8_soundsOf 23 = .ok (.iaload, 1) := by decide +kernel
theorem dX8_soundsOf_24 : decode cX8_soundsOf 24 = .ok (.aload_n 0, 1) := by decide +kernel
theorem dX8_soundsOf_25 : decode cX8_soundsOf 25 = .ok (.aload_n 0, 1) := by decide +kernel
theorem dX8_soundsOf_26 : decode cX8_soundsOf 26 = .ok (.getfield 7, 3) := by decide +kernel
theorem dX8_soundsOf_29 : decode cX8_soundsOf 29 = .ok (.iload_n 2, 1) := by decide +kernel
theorem dX8_soundsOf_30 : decode cX8_soundsOf 30 = .ok (.invokevirtual 233, 3) := by decide +kernel
theorem dX8_soundsOf_33 : decode cX8_soundsOf 33 = .ok (.invokevirtual 247, 3) := by decide +kernel
theorem dX8_soundsOf_36 : decode cX8_soundsOf 36 = .ok (.istore 4, 2) := by decide +kernel
theorem dX8_soundsOf_38 : decode cX8_soundsOf 38 = .ok (.iload_n 2, 1) := by decide +kernel
theorem dX8_soundsOf_39 : decode cX8_soundsOf 39 = .ok (.aload_n 0, 1) := by decide +kernel
theorem dX8_soundsOf_40 : decode cX8_soundsOf 40 = .ok (.getfield 7, 3) := by decide +kernel
theorem dX8_soundsOf_43 : decode cX8_soundsOf 43 = .ok (.if_icmp .ge 13, 3) := by decide +kernel
theorem dX8_soundsOf_46 : decode cX8_soundsOf 46 = .ok (.aload_n 0, 1) := by decide +kernel
theorem dX8_soundsOf_47 : decode cX8_soundsOf 47 = .ok (.getfield 7, 3) := by decide +kernel
theorem dX8_soundsOf_50 : decode cX8_soundsOf 50 = .ok (.iload 4, 2) := by decide +kernel
theorem dX8_soundsOf_52 : decode cX8_soundsOf 52 = .ok (.isub, 1) := by decide +kernel
theorem dX8_soundsOf_53 : decode cX8_soundsOf 53 = .ok (.goto 10, 3) := by decide +kernel
theorem dX8_soundsOf_56 : decode cX8_soundsOf 56 = .ok (.aload_n 0, 1) := by decide +kernel
theorem dX8_soundsOf_57 : decode cX8_soundsOf 57 = .ok (.getfield 7, 3) := by decide +kernel
theorem dX8_soundsOf_60 : decode cX8_soundsOf 60 = .ok (.iload 4, 2) := by decide +kernel
theorem dX8_soundsOf_62 : decode cX8_soundsOf 62 = .ok (.iadd, 1) := by decide +kernel
theorem dX8_soundsOf_63 : decode cX8_soundsOf 63 = .ok (.ireturn, 1) := by decide +kernel
theorem dX8_soundsOf_64 : decode cX8_soundsOf 64 = .ok (.iload_n 3, 1) := by decide +kernel
theorem dX8_soundsOf_65 : decode cX8_soundsOf 65 = .ok (.iconst 3, 1) := by decide +kernel
theorem dX8_soundsOf_66 : decode cX8_soundsOf 66 = .ok (.if_icmp .eq 14, 3) := by decide +kernel
theorem dX8_soundsOf_69 : decode cX8_soundsOf 69 = .ok (.iload_n 3, 1) := by decide +kernel
theorem dX8_soundsOf_70 : decode cX8_soundsOf 70 = .ok (.bipush 6, 2) := by decide +kernel
theorem dX8_soundsOf_72 : decode cX8_soundsOf 72 = .ok (.if_icmp .eq 8, 3) := by decide +kernel
theorem dX8_soundsOf_75 : decode cX8_soundsOf 75 = .ok (.aload_n 0, 1) := by decide +kernel
theorem dX8_soundsOf_76 : decode cX8_soundsOf 76 = .ok (.getfield 7, 3) := by decide +kernel
theorem dX8_soundsOf_79 : decode cX8_soundsOf 79 = .ok (.ireturn, 1) := by decide +kernel
theorem dX8_soundsOf_80 : decode cX8_soundsOf 80 = .ok (.iload_n 2, 1) := by decide +kernel
theorem dX8_soundsOf_81 : decode cX8_soundsOf 81 = .ok (.aload_n 0, 1) := by decide +kernel
theorem dX8_soundsOf_82 : decode cX8_soundsOf 82 = .ok (.getfield 7, 3) := by decide +kernel
theorem dX8_soundsOf_85 : decode cX8_soundsOf 85 = .ok (.if_icmp .le 17, 3) := by decide +kernel
theorem dX8_soundsOf_88 : decode cX8_soundsOf 88 = .ok (.aload_n 0, 1) := by decide +kernel
theorem dX8_soundsOf_89 : decode cX8_soundsOf 89 = .ok (.getfield 7, 3) := by decide +kernel
theorem dX8_soundsOf_92 : decode cX8_soundsOf 92 = .ok (.aload_n 0, 1) := by decide +kernel
theorem dX8_soundsOf_93 : decode cX8_soundsOf 93 = .ok (.getfield 99, 3) := by decide +kernel
theorem dX8_soundsOf_96 : decode cX8_soundsOf 96 = .ok (.iload_n 1, 1) := by decide +kernel
theorem dX8_soundsOf_97 : decode cX8_soundsOf 97 = .ok (.iaload, 1) := by decide +kernel
theorem dX8_soundsOf_98 : decode cX8_soundsOf 98 = .ok (.isub, 1) := by decide +kernel
theorem dX8_soundsOf_99 : decode cX8_soundsOf 99 = .ok (.goto 14, 3) := by decide +kernel
theorem dX8_soundsOf_102 : decode cX8_soundsOf 102 = .ok (.aload_n 0, 1) := by decide +kernel
theorem dX8_soundsOf_103 : decode cX8_soundsOf 103 = .ok (.getfield 7, 3) := by decide +kernel
theorem dX8_soundsOf_106 : decode cX8_soundsOf 106 = .ok (.aload_n 0, 1) := by decide +kernel
theorem dX8_soundsOf_107 : decode cX8_soundsOf 107 = .ok (.getfield 99, 3) := by decide +kernel
theorem dX8_soundsOf_110 : decode cX8_soundsOf 110 = .ok (.iload_n 1, 1) := by decide +kernel
theorem dX8_soundsOf_111 : decode cX8_soundsOf 111 = .ok (.iaload, 1) := by decide +kernel
theorem dX8_soundsOf_112 : decode cX8_soundsOf 112 = .ok (.iadd, 1) := by decide +kernel
theorem dX8_soundsOf_113 : decode cX8_soundsOf 113 = .ok (.istore 4, 2) := by decide +kernel
theorem dX8_soundsOf_115 : decode cX8_soundsOf 115 = .ok (.iload 4, 2) := by decide +kernel
theorem dX8_soundsOf_117 : decode cX8_soundsOf 117 = .ok (.ifCond .ge 7, 3) := by decide +kernel
theorem dX8_soundsOf_120 : decode cX8_soundsOf 120 = .ok (.iconst 0, 1) := by decide +kernel
theorem dX8_soundsOf_121 : decode cX8_soundsOf 121 = .ok (.goto 17, 3) := by decide +kernel
theorem dX8_soundsOf_124 : decode cX8_soundsOf 124 = .ok (.iload 4, 2) := by decide +kernel
theorem dX8_soundsOf_126 : decode cX8_soundsOf 126 = .ok (.bipush 40, 2) := by decide +kernel
theorem dX8_soundsOf_128 : decode cX8_soundsOf 128 = .ok (.if_icmp .le 8, 3) := by decide +kernel
theorem dX8_soundsOf_131 : decode cX8_soundsOf 131 = .ok (.bipush 40, 2) := by decide +kernel
theorem dX8_soundsOf_133 : decode cX8_soundsOf 133 = .ok (.goto 5, 3) := by decide +kernel
theorem dX8_soundsOf_136 : decode cX8_soundsOf 136 = .ok (.iload 4, 2) := by decide +kernel
theorem dX8_soundsOf_138 : decode cX8_soundsOf 138 = .ok (.ireturn, 1) := by decide +kernel
theorem dX8_movesBy_0 : decode cX8_movesBy 0 = .ok (.aload_n 0, 1) := by decide +kernel
theorem dX8_movesBy_1 : decode cX8_movesBy 1 = .ok (.invokevirtual 230, 3) := by decide +kernel
theorem dX8_movesBy_4 : decode cX8_movesBy 4 = .ok (.istore 4, 2) := by decide +kernel
theorem dX8_movesBy_6 : decode cX8_movesBy 6 = .ok (.iload_n 3, 1) := by decide +kernel
theorem dX8_movesBy_7 : decode cX8_movesBy 7 = .ok (.aload_n 0, 1) := by decide +kernel
theorem dX8_movesBy_8 : decode cX8_movesBy 8 = .ok (.getfield 96, 3) := by decide +kernel
theorem dX8_movesBy_11 : decode cX8_movesBy 11 = .ok (.iload_n 1, 1) := by decide +kernel
theorem dX8_movesBy_12 : decode cX8_movesBy 12 = .ok (.iaload, 1) := by decide +kernel
theorem dX8_movesBy_13 : decode cX8_movesBy 13 = .ok (.bipush 6, 2) := by decide +kernel
theorem dX8_movesBy_15 : decode cX8_movesBy 15 = .ok (.if_icmp .ne 12, 3) := by decide +kernel
theorem dX8_movesBy_18 : decode cX8_movesBy 18 = .ok (.aload_n 0, 1) := by decide +kernel
theorem dX8_movesBy_19 : decode cX8_movesBy 19 = .ok (.getfield 99, 3) := by decide +kernel
theorem dX8_movesBy_22 : decode cX8_movesBy 22 = .ok (.iload_n 1, 1) := by decide +kernel
theorem dX8_movesBy_23 : decode cX8_movesBy 23 = .ok (.iaload, 1) := by decide +kernel
theorem dX8_movesBy_24 : decode cX8_movesBy 24 = .ok (.goto 4, 3) := by decide +kernel
theorem dX8_movesBy_27 : decode cX8_movesBy 27 = .ok (.iconst 0, 1) := by decide +kernel
theorem dX8_movesBy_28 : decode cX8_movesBy 28 = .ok (.iadd, 1) := by decide +kernel
theorem dX8_movesBy_29 : decode cX8_movesBy 29 = .ok (.istore 5, 2) := by decide +kernel
theorem dX8_movesBy_31 : decode cX8_movesBy 31 = .ok (.iconst 0, 1) := by decide +kernel
theorem dX8_movesBy_32 : decode cX8_movesBy 32 = .ok (.istore 6, 2) := by decide +kernel
theorem dX8_movesBy_34 : decode cX8_movesBy 34 = .ok (.iconst 0, 1) := by decide +kernel
theorem dX8_movesBy_35 : decode cX8_movesBy 35 = .ok (.istore 7, 2) := by decide +kernel
theorem dX8_movesBy_37 : decode cX8_movesBy 37 = .ok (.iload 7, 2) := by decide +kernel
theorem dX8_movesBy_39 : decode cX8_movesBy 39 = .ok (.bipush 40, 2) := by decide +kernel
theorem dX8_movesBy_41 : decode cX8_movesBy 41 = .ok (.if_icmp .ge 55, 3) := by decide +kernel
theorem dX8_movesBy_44 : decode cX8_movesBy 44 = .ok (.iload 6, 2) := by decide +kernel
theorem dX8_movesBy_46 : decode cX8_movesBy 46 = .ok (.aload_n 0, 1) := by decide +kernel
theorem dX8_movesBy_47 : decode cX8_movesBy 47 = .ok (.iload 7, 2) := by decide +kernel
theorem dX8_movesBy_49 : decode cX8_movesBy 49 = .ok (.iload_n 2, 1) := by decide +kernel
theorem dX8_movesBy_50 : decode cX8_movesBy 50 = .ok (.invokevirtual 233, 3) := by decide +kernel
theorem dX8_movesBy_53 : decode cX8_movesBy 53 = .ok (.iload 4, 2) := by decide +kernel
theorem dX8_movesBy_55 : decode cX8_movesBy 55 = .ok (.if_icmp .gt 31, 3) := by decide +kernel
theorem dX8_movesBy_58 : decode cX8_movesBy 58 = .ok (.iload 7, 2) := by decide +kernel
theorem dX8_movesBy_60 : decode cX8_movesBy 60 = .ok (.iload 5, 2) := by decide +kernel
theorem dX8_movesBy_62 : decode cX8_movesBy 62 = .ok (.if_icmp .lt 24, 3) := by decide +kernel
theorem dX8_movesBy_65 : decode cX8_movesBy 65 = .ok (.aload_n 0, 1) := by decide +kernel
theorem dX8_movesBy_66 : decode cX8_movesBy 66 = .ok (.getfield 25, 3) := by decide +kernel
theorem dX8_movesBy_69 : decode cX8_movesBy 69 = .ok (.iload 7, 2) := by decide +kernel
theorem dX8_movesBy_71 : decode cX8_movesBy 71 = .ok (.iload 5, 2) := by decide +kernel
theorem dX8_movesBy_73 : decode cX8_movesBy 73 = .ok (.isub, 1) := by decide +kernel
theorem dX8_movesBy_74 : decode cX8_movesBy 74 = .ok (.lshr, 1) := by decide +kernel
theorem dX8_movesBy_75 : decode cX8_movesBy 75 = .ok (.lconst 1, 1) := by decide +kernel
theorem dX8_movesBy_76 : decode cX8_movesBy 76 = .ok (.land, 1) := by decide +kernel
theorem dX8_movesBy_77 : decode cX8_movesBy 77 = .ok (.lconst 1, 1) := by decide +kernel
theorem dX8_movesBy_78 : decode cX8_movesBy 78 = .ok (.lcmp, 1) := by decide +kernel
theorem dX8_movesBy_79 : decode cX8_movesBy 79 = .ok (.ifCond .ne 7, 3) := by decide +kernel
theorem dX8_movesBy_82 : decode cX8_movesBy 82 = .ok (.iconst 1, 1) := by decide +kernel
theorem dX8_movesBy_83 : decode cX8_movesBy 83 = .ok (.goto 4, 3) := by decide +kernel
theorem dX8_movesBy_86 : decode cX8_movesBy 86 = .ok (.iconst 0, 1) := by decide +kernel
theorem dX8_movesBy_87 : decode cX8_movesBy 87 = .ok (.iadd, 1) := by decide +kernel
theorem dX8_movesBy_88 : decode cX8_movesBy 88 = .ok (.istore 6, 2) := by decide +kernel
theorem dX8_movesBy_90 : decode cX8_movesBy 90 = .ok (.iinc 7 1, 3) := by decide +kernel
theorem dX8_movesBy_93 : decode cX8_movesBy 93 = .ok (.goto (-56), 3) := by decide +kernel
theorem dX8_movesBy_96 : decode cX8_movesBy 96 = .ok (.iload 6, 2) := by decide +kernel
theorem dX8_movesBy_98 : decode cX8_movesBy 98 = .ok (.ireturn, 1) := by decide +kernel
theorem dX8_mayJoin_0 : decode cX8_mayJoin 0 = .ok (.aload_n 0, 1) := by decide +kernel
theorem dX8_mayJoin_1 : decode cX8_mayJoin 1 = .ok (.iload_n 3, 1) := by decide +kernel
theorem dX8_mayJoin_2 : decode cX8_mayJoin 2 = .ok (.invokevirtual 236, 3) := by decide +kernel
theorem dX8_mayJoin_5 : decode cX8_mayJoin 5 = .ok (.ifCond .eq 33, 3) := by decide +kernel
theorem dX8_mayJoin_8 : decode cX8_mayJoin 8 = .ok (.aload_n 0, 1) := by decide +kernel
theorem dX8_mayJoin_9 : decode cX8_mayJoin 9 = .ok (.getfield 96, 3) := by decide +kernel
theorem dX8_mayJoin_12 : decode cX8_mayJoin 12 = .ok (.iload_n 1, 1) := by decide +kernel
theorem dX8_mayJoin_13 : decode cX8_mayJoin 13 = .ok (.iaload, 1) := by decide +kernel
theorem dX8_mayJoin_14 : decode cX8_mayJoin 14 = .ok (.iconst 4, 1) := by decide +kernel
theorem dX8_mayJoin_15 : decode cX8_mayJoin 15 = .ok (.if_icmp .ne 25, 3) := by decide +kernel
theorem dX8_mayJoin_18 : decode cX8_mayJoin 18 = .ok (.aload_n 0, 1) := by decide +kernel
theorem dX8_mayJoin_19 : decode cX8_mayJoin 19 = .ok (.getfield 99, 3) := by decide +kernel
theorem dX8_mayJoin_22 : decode cX8_mayJoin 22 = .ok (.iload_n 1, 1) := by decide +kernel
theorem dX8_mayJoin_23 : decode cX8_mayJoin 23 = .ok (.iaload, 1) := by decide +kernel
theorem dX8_mayJoin_24 : decode cX8_mayJoin 24 = .ok (.ifCond .le 16, 3) := by decide +kernel
theorem dX8_mayJoin_27 : decode cX8_mayJoin 27 = .ok (.iload_n 3, 1) := by decide +kernel
theorem dX8_mayJoin_28 : decode cX8_mayJoin 28 = .ok (.aload_n 0, 1) := by decide +kernel
theorem dX8_mayJoin_29 : decode cX8_mayJoin 29 = .ok (.getfield 99, 3) := by decide +kernel
theorem dX8_mayJoin_32 : decode cX8_mayJoin 32 = .ok (.iload_n 1, 1) := by decide +kernel
theorem dX8_mayJoin_33 : decode cX8_mayJoin 33 = .ok (.iaload, 1) := by decide +kernel
theorem dX8_mayJoin_34 : decode cX8_mayJoin 34 = .ok (.irem, 1) := by decide +kernel
theorem dX8_mayJoin_35 : decode cX8_mayJoin 35 = .ok (.ifCond .ne 5, 3) := by decide +kernel
theorem dX8_mayJoin_38 : decode cX8_mayJoin 38 = .ok (.iconst 0, 1) := by decide +kernel
theorem dX8_mayJoin_39 : decode cX8_mayJoin 39 = .ok (.ireturn, 1) := by decide +kernel
theorem dX8_mayJoin_40 : decode cX8_mayJoin 40 = .ok (.aload_n 0, 1) := by decide +kernel
theorem dX8_mayJoin_41 : decode cX8_mayJoin 41 = .ok (.iload 4, 2) := by decide +kernel
theorem dX8_mayJoin_43 : decode cX8_mayJoin 43 = .ok (.aload_n 0, 1) := by decide +kernel
theorem dX8_mayJoin_44 : decode cX8_mayJoin 44 = .ok (.iload_n 1, 1) := by decide +kernel
theorem dX8_mayJoin_45 : decode cX8_mayJoin 45 = .ok (.iload 4, 2) := by decide +kernel
theorem dX8_mayJoin_47 : decode cX8_mayJoin 47 = .ok (.invokevirtual 253, 3) := by decide +kernel
theorem dX8_mayJoin_50 : decode cX8_mayJoin 50 = .ok (.invokevirtual 233, 3) := by decide +kernel
theorem dX8_mayJoin_53 : decode cX8_mayJoin 53 = .ok (.aload_n 0, 1) := by decide +kernel
theorem dX8_mayJoin_54 : decode cX8_mayJoin 54 = .ok (.iload_n 1, 1) := by decide +kernel
theorem dX8_mayJoin_55 : decode cX8_mayJoin 55 = .ok (.iload_n 2, 1) := by decide +kernel
theorem dX8_mayJoin_56 : decode cX8_mayJoin 56 = .ok (.iload_n 3, 1) := by decide +kernel
theorem dX8_mayJoin_57 : decode cX8_mayJoin 57 = .ok (.invokevirtual 256, 3) := by decide +kernel
theorem dX8_mayJoin_60 : decode cX8_mayJoin 60 = .ok (.aload_n 0, 1) := by decide +kernel
theorem dX8_mayJoin_61 : decode cX8_mayJoin 61 = .ok (.iconst 1, 1) := by decide +kernel
theorem dX8_mayJoin_62 : decode cX8_mayJoin 62 = .ok (.iload_n 1, 1) := by decide +kernel
theorem dX8_mayJoin_63 : decode cX8_mayJoin 63 = .ok (.iload_n 2, 1) := by decide +kernel
theorem dX8_mayJoin_64 : decode cX8_mayJoin 64 = .ok (.iload_n 3, 1) := by decide +kernel
theorem dX8_mayJoin_65 : decode cX8_mayJoin 65 = .ok (.invokevirtual 250, 3) := by decide +kernel
theorem dX8_mayJoin_68 : decode cX8_mayJoin 68 = .ok (.iadd, 1) := by decide +kernel
theorem dX8_mayJoin_69 : decode cX8_mayJoin 69 = .ok (.if_icmp .gt 7, 3) := by decide +kernel
theorem dX8_mayJoin_72 : decode cX8_mayJoin 72 = .ok (.iconst 1, 1) := by decide +kernel
theorem dX8_mayJoin_73 : decode cX8_mayJoin 73 = .ok (.goto 4, 3) := by decide +kernel
theorem dX8_mayJoin_76 : decode cX8_mayJoin 76 = .ok (.iconst 0, 1) := by decide +kernel
theorem dX8_mayJoin_77 : decode cX8_mayJoin 77 = .ok (.ireturn, 1) := by decide +kernel
theorem dX8_joined_0 : decode cX8_joined 0 = .ok (.aload_n 0, 1) := by decide +kernel
theorem dX8_joined_1 : decode cX8_joined 1 = .ok (.iload_n 1, 1) := by decide +kernel
theorem dX8_joined_2 : decode cX8_joined 2 = .ok (.iload_n 2, 1) := by decide +kernel
theorem dX8_joined_3 : decode cX8_joined 3 = .ok (.iload_n 3, 1) := by decide +kernel
theorem dX8_joined_4 : decode cX8_joined 4 = .ok (.iload 4, 2) := by decide +kernel
theorem dX8_joined_6 : decode cX8_joined 6 = .ok (.invokevirtual 259, 3) := by decide +kernel
theorem dX8_joined_9 : decode cX8_joined 9 = .ok (.ifCond .eq 18, 3) := by decide +kernel
theorem dX8_joined_12 : decode cX8_joined 12 = .ok (.aload_n 0, 1) := by decide +kernel
theorem dX8_joined_13 : decode cX8_joined 13 = .ok (.iload_n 1, 1) := by decide +kernel
theorem dX8_joined_14 : decode cX8_joined 14 = .ok (.iload_n 3, 1) := by decide +kernel
theorem dX8_joined_15 : decode cX8_joined 15 = .ok (.iload 5, 2) := by decide +kernel
theorem dX8_joined_17 : decode cX8_joined 17 = .ok (.invokevirtual 262, 3) := by decide +kernel
theorem dX8_joined_20 : decode cX8_joined 20 = .ok (.ifCond .le 7, 3) := by decide +kernel
theorem dX8_joined_23 : decode cX8_joined 23 = .ok (.iconst 1, 1) := by decide +kernel
theorem dX8_joined_24 : decode cX8_joined 24 = .ok (.goto 4, 3) := by decide +kernel
theorem dX8_joined_27 : decode cX8_joined 27 = .ok (.iconst 0, 1) := by decide +kernel
theorem dX8_joined_28 : decode cX8_joined 28 = .ok (.ireturn, 1) := by decide +kernel
theorem dX8_heldOf_0 : decode cX8_heldOf 0 = .ok (.aload_n 0, 1) := by decide +kernel
theorem dX8_heldOf_1 : decode cX8_heldOf 1 = .ok (.iload_n 1, 1) := by decide +kernel
theorem dX8_heldOf_2 : decode cX8_heldOf 2 = .ok (.aload_n 0, 1) := by decide +kernel
theorem dX8_heldOf_3 : decode cX8_heldOf 3 = .ok (.getfield 13, 3) := by decide +kernel
theorem dX8_heldOf_6 : decode cX8_heldOf 6 = .ok (.invokevirtual 253, 3) := by decide +kernel
theorem dX8_heldOf_9 : decode cX8_heldOf 9 = .ok (.istore 4, 2) := by decide +kernel
theorem dX8_heldOf_11 : decode cX8_heldOf 11 = .ok (.aload_n 0, 1) := by decide +kernel
theorem dX8_heldOf_12 : decode cX8_heldOf 12 = .ok (.iload_n 1, 1) := by decide +kernel
theorem dX8_heldOf_13 : decode cX8_heldOf 13 = .ok (.iload_n 2, 1) := by decide +kernel
theorem dX8_heldOf_14 : decode cX8_heldOf 14 = .ok (.iload_n 3, 1) := by decide +kernel
theorem dX8_heldOf_15 : decode cX8_heldOf 15 = .ok (.aload_n 0, 1) := by decide +kernel
theorem dX8_heldOf_16 : decode cX8_heldOf 16 = .ok (.getfield 13, 3) := by decide +kernel
theorem dX8_heldOf_19 : decode cX8_heldOf 19 = .ok (.iconst 0, 1) := by decide +kernel
theorem dX8_heldOf_20 : decode cX8_heldOf 20 = .ok (.invokevirtual 265, 3) := by decide +kernel
theorem dX8_heldOf_23 : decode cX8_heldOf 23 = .ok (.ifCond .ne 6, 3) := by decide +kernel
theorem dX8_heldOf_26 : decode cX8_heldOf 26 = .ok (.iload 4, 2) := by decide +kernel
theorem dX8_heldOf_28 : decode cX8_heldOf 28 = .ok (.ireturn, 1) := by decide +kernel
theorem dX8_heldOf_29 : decode cX8_heldOf 29 = .ok (.aload_n 0, 1) := by decide +kernel
theorem dX8_heldOf_30 : decode cX8_heldOf 30 = .ok (.iload_n 1, 1) := by decide +kernel
theorem dX8_heldOf_31 : decode cX8_heldOf 31 = .ok (.iload_n 2, 1) := by decide +kernel
theorem dX8_heldOf_32 : decode cX8_heldOf 32 = .ok (.iload_n 3, 1) := by decide +kernel
theorem dX8_heldOf_33 : decode cX8_heldOf 33 = .ok (.invokevirtual 256, 3) := by decide +kernel
theorem dX8_heldOf_36 : decode cX8_heldOf 36 = .ok (.istore 5, 2) := by decide +kernel
theorem dX8_heldOf_38 : decode cX8_heldOf 38 = .ok (.aload_n 0, 1) := by decide +kernel
theorem dX8_heldOf_39 : decode cX8_heldOf 39 = .ok (.iconst 1, 1) := by decide +kernel
theorem dX8_heldOf_40 : decode cX8_heldOf 40 = .ok (.iload_n 1, 1) := by decide +kernel
theorem dX8_heldOf_41 : decode cX8_heldOf 41 = .ok (.iload_n 2, 1) := by decide +kernel
theorem dX8_heldOf_42 : decode cX8_heldOf 42 = .ok (.iload_n 3, 1) := by decide +kernel
theorem dX8_heldOf_43 : decode cX8_heldOf 43 = .ok (.invokevirtual 250, 3) := by decide +kernel
theorem dX8_heldOf_46 : decode cX8_heldOf 46 = .ok (.istore 6, 2) := by decide +kernel
theorem dX8_heldOf_48 : decode cX8_heldOf 48 = .ok (.iload 4, 2) := by decide +kernel
theorem dX8_heldOf_50 : decode cX8_heldOf 50 = .ok (.iload 6, 2) := by decide +kernel
theorem dX8_heldOf_52 : decode cX8_heldOf 52 = .ok (.imul, 1) := by decide +kernel
theorem dX8_heldOf_53 : decode cX8_heldOf 53 = .ok (.aload_n 0, 1) := by decide +kernel
theorem dX8_heldOf_54 : decode cX8_heldOf 54 = .ok (.getfield 13, 3) := by decide +kernel
theorem dX8_heldOf_57 : decode cX8_heldOf 57 = .ok (.iload 5, 2) := by decide +kernel
theorem dX8_heldOf_59 : decode cX8_heldOf 59 = .ok (.imul, 1) := by decide +kernel
theorem dX8_heldOf_60 : decode cX8_heldOf 60 = .ok (.iadd, 1) := by decide +kernel
theorem dX8_heldOf_61 : decode cX8_heldOf 61 = .ok (.iload 5, 2) := by decide +kernel
theorem dX8_heldOf_63 : decode cX8_heldOf 63 = .ok (.iload 6, 2) := by decide +kernel
theorem dX8_heldOf_65 : decode cX8_heldOf 65 = .ok (.iadd, 1) := by decide +kernel
theorem dX8_heldOf_66 : decode cX8_heldOf 66 = .ok (.idiv, 1) := by decide +kernel
theorem dX8_heldOf_67 : decode cX8_heldOf 67 = .ok (.ireturn, 1) := by decide +kernel
theorem dX8_isCaught_0 : decode cX8_isCaught 0 = .ok (.aload_n 0, 1) := by decide +kernel
theorem dX8_isCaught_1 : decode cX8_isCaught 1 = .ok (.iload_n 1, 1) := by decide +kernel
theorem dX8_isCaught_2 : decode cX8_isCaught 2 = .ok (.iload_n 2, 1) := by decide +kernel
theorem dX8_isCaught_3 : decode cX8_isCaught 3 = .ok (.iload_n 3, 1) := by decide +kernel
theorem dX8_isCaught_4 : decode cX8_isCaught 4 = .ok (.invokevirtual 269, 3) := by decide +kernel
theorem dX8_isCaught_7 : decode cX8_isCaught 7 = .ok (.istore 4, 2) := by decide +kernel
theorem dX8_isCaught_9 : decode cX8_isCaught 9 = .ok (.aload_n 0, 1) := by decide +kernel
theorem dX8_isCaught_10 : decode cX8_isCaught 10 = .ok (.iload 4, 2) := by decide +kernel
theorem dX8_isCaught_12 : decode cX8_isCaught 12 = .ok (.aload_n 0, 1) := by decide +kernel
theorem dX8_isCaught_13 : decode cX8_isCaught 13 = .ok (.getfield 13, 3) := by decide +kernel
theorem dX8_isCaught_16 : decode cX8_isCaught 16 = .ok (.invokevirtual 233, 3) := by decide +kernel
theorem dX8_isCaught_19 : decode cX8_isCaught 19 = .ok (.aload_n 0, 1) := by decide +kernel
theorem dX8_isCaught_20 : decode cX8_isCaught 20 = .ok (.iload 4, 2) := by decide +kernel
theorem dX8_isCaught_22 : decode cX8_isCaught 22 = .ok (.aload_n 0, 1) := by decide +kernel
theorem dX8_isCaught_23 : decode cX8_isCaught 23 = .ok (.getfield 7, 3) := by decide +kernel
theorem dX8_isCaught_26 : decode cX8_isCaught 26 = .ok (.invokevirtual 233, 3) := by decide +kernel
theorem dX8_isCaught_29 : decode cX8_isCaught 29 = .ok (.if_icmp .ge 7, 3) := by decide +kernel
theorem dX8_isCaught_32 : decode cX8_isCaught 32 = .ok (.iconst 1, 1) := by decide +kernel
theorem dX8_isCaught_33 : decode cX8_isCaught 33 = .ok (.goto 4, 3) := by decide +kernel
theorem dX8_isCaught_36 : decode cX8_isCaught 36 = .ok (.iconst 0, 1) := by decide +kernel
theorem dX8_isCaught_37 : decode cX8_isCaught 37 = .ok (.ireturn, 1) := by decide +kernel
theorem dX8_held_0 : decode cX8_held 0 = .ok (.aload_n 0, 1) := by decide +kernel
theorem dX8_held_1 : decode cX8_held 1 = .ok (.iload_n 1, 1) := by decide +kernel
theorem dX8_held_2 : decode cX8_held 2 = .ok (.invokevirtual 272, 3) := by decide +kernel
theorem dX8_held_5 : decode cX8_held 5 = .ok (.ifCond .eq 22, 3) := by decide +kernel
theorem dX8_held_8 : decode cX8_held 8 = .ok (.aload_n 0, 1) := by decide +kernel
theorem dX8_held_9 : decode cX8_held 9 = .ok (.iload_n 2, 1) := by decide +kernel
theorem dX8_held_10 : decode cX8_held 10 = .ok (.invokevirtual 160, 3) := by decide +kernel
theorem dX8_held_13 : decode cX8_held 13 = .ok (.ifCond .eq 14, 3) := by decide +kernel
theorem dX8_held_16 : decode cX8_held 16 = .ok (.aload_n 0, 1) := by decide +kernel
theorem dX8_held_17 : decode cX8_held 17 = .ok (.iload_n 3, 1) := by decide +kernel
theorem dX8_held_18 : decode cX8_held 18 = .ok (.iconst 0, 1) := by decide +kernel
theorem dX8_held_19 : decode cX8_held 19 = .ok (.bipush 39, 2) := by decide +kernel
theorem dX8_held_21 : decode cX8_held 21 = .ok (.invokevirtual 150, 3) := by decide +kernel
theorem dX8_held_24 : decode cX8_held 24 = .ok (.ifCond .ne 5, 3) := by decide +kernel
theorem dX8_held_27 : decode cX8_held 27 = .ok (.iconst (-1), 1) := by decide +kernel
theorem dX8_held_28 : decode cX8_held 28 = .ok (.ireturn, 1) := by decide +kernel
theorem dX8_held_29 : decode cX8_held 29 = .ok (.iload 4, 2) := by decide +kernel
theorem dX8_held_31 : decode cX8_held 31 = .ok (.tableswitch 109 0 5 #[37, 45, 54, 64, 85, 93], 37) := by decide +kernel
theorem dX8_held_68 : decode cX8_held 68 = .ok (.aload_n 0, 1) := by decide +kernel
theorem dX8_held_69 : decode cX8_held 69 = .ok (.iload_n 1, 1) := by decide +kernel
theorem dX8_held_70 : decode cX8_held 70 = .ok (.iload_n 2, 1) := by decide +kernel
theorem dX8_held_71 : decode cX8_held 71 = .ok (.iload_n 3, 1) := by decide +kernel
theorem dX8_held_72 : decode cX8_held 72 = .ok (.invokevirtual 256, 3) := by decide +kernel
theorem dX8_held_75 : decode cX8_held 75 = .ok (.ireturn, 1) := by decide +kernel
theorem dX8_held_76 : decode cX8_held 76 = .ok (.aload_n 0, 1) := by decide +kernel
theorem dX8_held_77 : decode cX8_held 77 = .ok (.iconst 1, 1) := by decide +kernel
theorem dX8_held_78 : decode cX8_held 78 = .ok (.iload_n 1, 1) := by decide +kernel
theorem dX8_held_79 : decode cX8_held 79 = .ok (.iload_n 2, 1) := by decide +kernel
theorem dX8_held_80 : decode cX8_held 80 = .ok (.iload_n 3, 1) := by decide +kernel
theorem dX8_held_81 : decode cX8_held 81 = .ok (.invokevirtual 250, 3) := by decide +kernel
theorem dX8_held_84 : decode cX8_held 84 = .ok (.ireturn, 1) := by decide +kernel
theorem dX8_held_85 : decode cX8_held 85 = .ok (.aload_n 0, 1) := by decide +kernel
theorem dX8_held_86 : decode cX8_held 86 = .ok (.iload_n 1, 1) := by decide +kernel
theorem dX8_held_87 : decode cX8_held 87 = .ok (.aload_n 0, 1) := by decide +kernel
theorem dX8_held_88 : decode cX8_held 88 = .ok (.getfield 13, 3) := by decide +kernel
theorem dX8_held_91 : decode cX8_held 91 = .ok (.invokevirtual 253, 3) := by decide +kernel
theorem dX8_held_94 : decode cX8_held 94 = .ok (.ireturn, 1) := by decide +kernel
theorem dX8_held_95 : decode cX8_held 95 = .ok (.aload_n 0, 1) := by decide +kernel
theorem dX8_held_96 : decode cX8_held 96 = .ok (.iload_n 1, 1) := by decide +kernel
theorem dX8_held_97 : decode cX8_held 97 = .ok (.iload_n 2, 1) := by decide +kernel
theorem dX8_held_98 : decode cX8_held 98 = .ok (.iload_n 3, 1) := by decide +kernel
theorem dX8_held_99 : decode cX8_held 99 = .ok (.aload_n 0, 1) := by decide +kernel
theorem dX8_held_100 : decode cX8_held 100 = .ok (.getfield 13, 3) := by decide +kernel
theorem dX8_held_103 : decode cX8_held 103 = .ok (.iconst 0, 1) := by decide +kernel
theorem dX8_held_104 : decode cX8_held 104 = .ok (.invokevirtual 265, 3) := by decide +kernel
theorem dX8_held_107 : decode cX8_held 107 = .ok (.ifCond .eq 7, 3) := by decide +kernel
theorem dX8_held_110 : decode cX8_held 110 = .ok (.iconst 1, 1) := by decide +kernel
theorem dX8_held_111 : decode cX8_held 111 = .ok (.goto 4, 3) := by decide +kernel
theorem dX8_held_114 : decode cX8_held 114 = .ok (.iconst 0, 1) := by decide +kernel
theorem dX8_held_115 : decode cX8_held 115 = .ok (.ireturn, 1) := by decide +kernel
theorem dX8_held_116 : decode cX8_held 116 = .ok (.aload_n 0, 1) := by decide +kernel
theorem dX8_held_117 : decode cX8_held 117 = .ok (.iload_n 1, 1) := by decide +kernel
theorem dX8_held_118 : decode cX8_held 118 = .ok (.iload_n 2, 1) := by decide +kernel
theorem dX8_held_119 : decode cX8_held 119 = .ok (.iload_n 3, 1) := by decide +kernel
theorem dX8_held_120 : decode cX8_held 120 = .ok (.invokevirtual 269, 3) := by decide +kernel
theorem dX8_held_123 : decode cX8_held 123 = .ok (.ireturn, 1) := by decide +kernel
theorem dX8_held_124 : decode cX8_held 124 = .ok (.aload_n 0, 1) := by decide +kernel
theorem dX8_held_125 : decode cX8_held 125 = .ok (.iload_n 1, 1) := by decide +kernel
theorem dX8_held_126 : decode cX8_held 126 = .ok (.iload_n 2, 1) := by decide +kernel
theorem dX8_held_127 : decode cX8_held 127 = .ok (.iload_n 3, 1) := by decide +kernel
theorem dX8_held_128 : decode cX8_held 128 = .ok (.invokevirtual 275, 3) := by decide +kernel
theorem dX8_held_131 : decode cX8_held 131 = .ok (.ifCond .eq 7, 3) := by decide +kernel
theorem dX8_held_134 : decode cX8_held 134 = .ok (.iconst 1, 1) := by decide +kernel
theorem dX8_held_135 : decode cX8_held 135 = .ok (.goto 4, 3) := by decide +kernel
theorem dX8_held_138 : decode cX8_held 138 = .ok (.iconst 0, 1) := by decide +kernel
theorem dX8_held_139 : decode cX8_held 139 = .ok (.ireturn, 1) := by decide +kernel
theorem dX8_held_140 : decode cX8_held 140 = .ok (.iconst (-1), 1) := by decide +kernel
theorem dX8_held_141 : decode cX8_held 141 = .ok (.ireturn, 1) := by decide +kernel
theorem dX8_saidOf_0 : decode cX8_saidOf 0 = .ok (.aload_n 0, 1) := by decide +kernel
theorem dX8_saidOf_1 : decode cX8_saidOf 1 = .ok (.getfield 96, 3) := by decide +kernel
theorem dX8_saidOf_4 : decode cX8_saidOf 4 = .ok (.iload_n 1, 1) := by decide +kernel
theorem dX8_saidOf_5 : decode cX8_saidOf 5 = .ok (.iaload, 1) := by decide +kernel
theorem dX8_saidOf_6 : decode cX8_saidOf 6 = .ok (.iconst 5, 1) := by decide +kernel
theorem dX8_saidOf_7 : decode cX8_saidOf 7 = .ok (.if_icmp .ne 26, 3) := by decide +kernel
theorem dX8_saidOf_10 : decode cX8_saidOf 10 = .ok (.aload_n 0, 1) := by decide +kernel
theorem dX8_saidOf_11 : decode cX8_saidOf 11 = .ok (.iconst 4, 1) := by decide +kernel
theorem dX8_saidOf_12 : decode cX8_saidOf 12 = .ok (.bipush 16, 2) := by decide +kernel
theorem dX8_saidOf_14 : decode cX8_saidOf 14 = .ok (.aload_n 0, 1) := by decide +kernel
theorem dX8_saidOf_15 : decode cX8_saidOf 15 = .ok (.getfield 36, 3) := by decide +kernel
theorem dX8_saidOf_18 : decode cX8_saidOf 18 = .ok (.iload_n 2, 1) := by decide +kernel
theorem dX8_saidOf_19 : decode cX8_saidOf 19 = .ok (.iaload, 1) := by decide +kernel
theorem dX8_saidOf_20 : decode cX8_saidOf 20 = .ok (.imul, 1) := by decide +kernel
theorem dX8_saidOf_21 : decode cX8_saidOf 21 = .ok (.aload_n 0, 1) := by decide +kernel
theorem dX8_saidOf_22 : decode cX8_saidOf 22 = .ok (.getfield 36, 3) := by decide +kernel
theorem dX8_saidOf_25 : decode cX8_saidOf 25 = .ok (.iload_n 2, 1) := by decide +kernel
theorem dX8_saidOf_26 : decode cX8_saidOf 26 = .ok (.iaload, 1) := by decide +kernel
theorem dX8_saidOf_27 : decode cX8_saidOf 27 = .ok (.invokevirtual 222, 3) := by decide +kernel
theorem dX8_saidOf_30 : decode cX8_saidOf 30 = .ok (.goto 9, 3) := by decide +kernel
theorem dX8_saidOf_33 : decode cX8_saidOf 33 = .ok (.aload_n 0, 1) := by decide +kernel
theorem dX8_saidOf_34 : decode cX8_saidOf 34 = .ok (.getfield 36, 3) := by decide +kernel
theorem dX8_saidOf_37 : decode cX8_saidOf 37 = .ok (.iload_n 2, 1) := by decide +kernel
theorem dX8_saidOf_38 : decode cX8_saidOf 38 = .ok (.iaload, 1) := by decide +kernel
theorem dX8_saidOf_39 : decode cX8_saidOf 39 = .ok (.ireturn, 1) := by decide +kernel
theorem dX8_heardOf_0 : decode cX8_heardOf 0 = .ok (.aload_n 0, 1) := by decide +kernel
theorem dX8_heardOf_1 : decode cX8_heardOf 1 = .ok (.iload_n 1, 1) := by decide +kernel
theorem dX8_heardOf_2 : decode cX8_heardOf 2 = .ok (.iload_n 2, 1) := by decide +kernel
theorem dX8_heardOf_3 : decode cX8_heardOf 3 = .ok (.iconst 2, 1) := by decide +kernel
theorem dX8_heardOf_4 : decode cX8_heardOf 4 = .ok (.iload_n 3, 1) := by decide +kernel
theorem dX8_heardOf_5 : decode cX8_heardOf 5 = .ok (.imul, 1) := by decide +kernel
theorem dX8_heardOf_6 : decode cX8_heardOf 6 = .ok (.aload_n 0, 1) := by decide +kernel
theorem dX8_heardOf_7 : decode cX8_heardOf 7 = .ok (.getfield 13, 3) := by decide +kernel
theorem dX8_heardOf_10 : decode cX8_heardOf 10 = .ok (.iconst 0, 1) := by decide +kernel
theorem dX8_heardOf_11 : decode cX8_heardOf 11 = .ok (.invokevirtual 265, 3) := by decide +kernel
theorem dX8_heardOf_14 : decode cX8_heardOf 14 = .ok (.ifCond .eq 11, 3) := by decide +kernel
theorem dX8_heardOf_17 : decode cX8_heardOf 17 = .ok (.aload_n 0, 1) := by decide +kernel
theorem dX8_heardOf_18 : decode cX8_heardOf 18 = .ok (.iload 4, 2) := by decide +kernel
theorem dX8_heardOf_20 : decode cX8_heardOf 20 = .ok (.iconst 0, 1) := by decide +kernel
theorem dX8_heardOf_21 : decode cX8_heardOf 21 = .ok (.invokevirtual 226, 3) := by decide +kernel
theorem dX8_heardOf_24 : decode cX8_heardOf 24 = .ok (.ireturn, 1) := by decide +kernel
theorem dX8_heardOf_25 : decode cX8_heardOf 25 = .ok (.aload_n 0, 1) := by decide +kernel
theorem dX8_heardOf_26 : decode cX8_heardOf 26 = .ok (.getfield 29, 3) := by decide +kernel
theorem dX8_heardOf_29 : decode cX8_heardOf 29 = .ok (.iload_n 2, 1) := by decide +kernel
theorem dX8_heardOf_30 : decode cX8_heardOf 30 = .ok (.iaload, 1) := by decide +kernel
theorem dX8_heardOf_31 : decode cX8_heardOf 31 = .ok (.bipush 20, 2) := by decide +kernel
theorem dX8_heardOf_33 : decode cX8_heardOf 33 = .ok (.if_icmp .gt 23, 3) := by decide +kernel
theorem dX8_heardOf_36 : decode cX8_heardOf 36 = .ok (.aload_n 0, 1) := by decide +kernel
theorem dX8_heardOf_37 : decode cX8_heardOf 37 = .ok (.iload 4, 2) := by decide +kernel
theorem dX8_heardOf_39 : decode cX8_heardOf 39 = .ok (.iload 4, 2) := by decide +kernel
theorem dX8_heardOf_41 : decode cX8_heardOf 41 = .ok (.iconst 3, 1) := by decide +kernel
theorem dX8_heardOf_42 : decode cX8_heardOf 42 = .ok (.if_icmp .ge 7, 3) := by decide +kernel
theorem dX8_heardOf_45 : decode cX8_heardOf 45 = .ok (.iconst 1, 1) := by decide +kernel
theorem dX8_heardOf_46 : decode cX8_heardOf 46 = .ok (.goto 4, 3) := by decide +kernel
theorem dX8_heardOf_49 : decode cX8_heardOf 49 = .ok (.iconst 0, 1) := by decide +kernel
theorem dX8_heardOf_50 : decode cX8_heardOf 50 = .ok (.invokevirtual 226, 3) := by decide +kernel
theorem dX8_heardOf_53 : decode cX8_heardOf 53 = .ok (.goto 5, 3) := by decide +kernel
theorem dX8_heardOf_56 : decode cX8_heardOf 56 = .ok (.iload 4, 2) := by decide +kernel
theorem dX8_heardOf_58 : decode cX8_heardOf 58 = .ok (.ireturn, 1) := by decide +kernel
theorem dX8_isRight_0 : decode cX8_isRight 0 = .ok (.aload_n 0, 1) := by decide +kernel
theorem dX8_isRight_1 : decode cX8_isRight 1 = .ok (.iload_n 1, 1) := by decide +kernel
theorem dX8_isRight_2 : decode cX8_isRight 2 = .ok (.iload_n 2, 1) := by decide +kernel
theorem dX8_isRight_3 : decode cX8_isRight 3 = .ok (.iload_n 3, 1) := by decide +kernel
theorem dX8_isRight_4 : decode cX8_isRight 4 = .ok (.aload_n 0, 1) := by decide +kernel
theorem dX8_isRight_5 : decode cX8_isRight 5 = .ok (.iload_n 1, 1) := by decide +kernel
theorem dX8_isRight_6 : decode cX8_isRight 6 = .ok (.iload_n 3, 1) := by decide +kernel
theorem dX8_isRight_7 : decode cX8_isRight 7 = .ok (.invokevirtual 278, 3) := by decide +kernel
theorem dX8_isRight_10 : decode cX8_isRight 10 = .ok (.invokevirtual 281, 3) := by decide +kernel
theorem dX8_isRight_13 : decode cX8_isRight 13 = .ok (.aload_n 0, 1) := by decide +kernel
theorem dX8_isRight_14 : decode cX8_isRight 14 = .ok (.getfield 36, 3) := by decide +kernel
theorem dX8_isRight_17 : decode cX8_isRight 17 = .ok (.iload_n 3, 1) := by decide +kernel
theorem dX8_isRight_18 : decode cX8_isRight 18 = .ok (.iaload, 1) := by decide +kernel
theorem dX8_isRight_19 : decode cX8_isRight 19 = .ok (.if_icmp .ne 7, 3) := by decide +kernel
theorem dX8_isRight_22 : decode cX8_isRight 22 = .ok (.iconst 1, 1) := by decide +kernel
theorem dX8_isRight_23 : decode cX8_isRight 23 = .ok (.goto 4, 3) := by decide +kernel
theorem dX8_isRight_26 : decode cX8_isRight 26 = .ok (.iconst 0, 1) := by decide +kernel
theorem dX8_isRight_27 : decode cX8_isRight 27 = .ok (.ireturn, 1) := by decide +kernel
theorem dX8_heard_0 : decode cX8_heard 0 = .ok (.aload_n 0, 1) := by decide +kernel
theorem dX8_heard_1 : decode cX8_heard 1 = .ok (.iload_n 1, 1) := by decide +kernel
theorem dX8_heard_2 : decode cX8_heard 2 = .ok (.invokevirtual 272, 3) := by decide +kernel
theorem dX8_heard_5 : decode cX8_heard 5 = .ok (.ifCond .eq 26, 3) := by decide +kernel
theorem dX8_heard_8 : decode cX8_heard 8 = .ok (.aload_n 0, 1) := by decide +kernel
theorem dX8_heard_9 : decode cX8_heard 9 = .ok (.iload_n 2, 1) := by decide +kernel
theorem dX8_heard_10 : decode cX8_heard 10 = .ok (.invokevirtual 160, 3) := by decide +kernel
theorem dX8_heard_13 : decode cX8_heard 13 = .ok (.ifCond .eq 18, 3) := by decide +kernel
theorem dX8_heard_16 : decode cX8_heard 16 = .ok (.aload_n 0, 1) := by decide +kernel
theorem dX8_heard_17 : decode cX8_heard 17 = .ok (.iload_n 3, 1) := by decide +kernel
theorem dX8_heard_18 : decode cX8_heard 18 = .ok (.iconst 0, 1) := by decide +kernel
theorem dX8_heard_19 : decode cX8_heard 19 = .ok (.aload_n 0, 1) := by decide +kernel
theorem dX8_heard_20 : decode cX8_heard 20 = .ok (.getfield 19, 3) := by decide +kernel
theorem dX8_heard_23 : decode cX8_heard 23 = .ok (.iconst 1, 1) := by decide +kernel
theorem dX8_heard_24 : decode cX8_heard 24 = .ok (.isub, 1) := by decide +kernel
theorem dX8_heard_25 : decode cX8_heard 25 = .ok (.invokevirtual 150, 3) := by decide +kernel
theorem dX8_heard_28 : decode cX8_heard 28 = .ok (.ifCond .ne 5, 3) := by decide +kernel
theorem dX8_heard_31 : decode cX8_heard 31 = .ok (.iconst (-1), 1) := by decide +kernel
theorem dX8_heard_32 : decode cX8_heard 32 = .ok (.ireturn, 1) := by decide +kernel
theorem dX8_heard_33 : decode cX8_heard 33 = .ok (.iload 4, 2) := by decide +kernel
theorem dX8_heard_35 : decode cX8_heard 35 = .ok (.tableswitch 62 0 2 #[25, 32, 46], 25) := by decide +kernel
theorem dX8_heard_60 : decode cX8_heard 60 = .ok (.aload_n 0, 1) := by decide +kernel
theorem dX8_heard_61 : decode cX8_heard 61 = .ok (.iload_n 1, 1) := by decide +kernel
theorem dX8_heard_62 : decode cX8_heard 62 = .ok (.iload_n 3, 1) := by decide +kernel
theorem dX8_heard_63 : decode cX8_heard 63 = .ok (.invokevirtual 278, 3) := by decide +kernel
theorem dX8_heard_66 : decode cX8_heard 66 = .ok (.ireturn, 1) := by decide +kernel
theorem dX8_heard_67 : decode cX8_heard 67 = .ok (.aload_n 0, 1) := by decide +kernel
theorem dX8_heard_68 : decode cX8_heard 68 = .ok (.iload_n 1, 1) := by decide +kernel
theorem dX8_heard_69 : decode cX8_heard 69 = .ok (.iload_n 2, 1) := by decide +kernel
theorem dX8_heard_70 : decode cX8_heard 70 = .ok (.iload_n 3, 1) := by decide +kernel
theorem dX8_heard_71 : decode cX8_heard 71 = .ok (.aload_n 0, 1) := by decide +kernel
theorem dX8_heard_72 : decode cX8_heard 72 = .ok (.iload_n 1, 1) := by decide +kernel
theorem dX8_heard_73 : decode cX8_heard 73 = .ok (.iload_n 3, 1) := by decide +kernel
theorem dX8_heard_74 : decode cX8_heard 74 = .ok (.invokevirtual 278, 3) := by decide +kernel
theorem dX8_heard_77 : decode cX8_heard 77 = .ok (.invokevirtual 281, 3) := by decide +kernel
theorem dX8_heard_80 : decode cX8_heard 80 = .ok (.ireturn, 1) := by decide +kernel
theorem dX8_heard_81 : decode cX8_heard 81 = .ok (.aload_n 0, 1) := by decide +kernel
theorem dX8_heard_82 : decode cX8_heard 82 = .ok (.iload_n 1, 1) := by decide +kernel
theorem dX8_heard_83 : decode cX8_heard 83 = .ok (.iload_n 2, 1) := by decide +kernel
theorem dX8_heard_84 : decode cX8_heard 84 = .ok (.iload_n 3, 1) := by decide +kernel
theorem dX8_heard_85 : decode cX8_heard 85 = .ok (.invokevirtual 284, 3) := by decide +kernel
theorem dX8_heard_88 : decode cX8_heard 88 = .ok (.ifCond .eq 7, 3) := by decide +kernel
theorem dX8_heard_91 : decode cX8_heard 91 = .ok (.iconst 1, 1) := by decide +kernel
theorem dX8_heard_92 : decode cX8_heard 92 = .ok (.goto 4, 3) := by decide +kernel
theorem dX8_heard_95 : decode cX8_heard 95 = .ok (.iconst 0, 1) := by decide +kernel
theorem dX8_heard_96 : decode cX8_heard 96 = .ok (.ireturn, 1) := by decide +kernel
theorem dX8_heard_97 : decode cX8_heard 97 = .ok (.iconst (-1), 1) := by decide +kernel
theorem dX8_heard_98 : decode cX8_heard 98 = .ok (.ireturn, 1) := by decide +kernel
theorem dX8_houseful_0 : decode cX8_houseful 0 = .ok (.aload_n 0, 1) := by decide +kernel
theorem dX8_houseful_1 : decode cX8_houseful 1 = .ok (.iload_n 1, 1) := by decide +kernel
theorem dX8_houseful_2 : decode cX8_houseful 2 = .ok (.invokevirtual 272, 3) := by decide +kernel
theorem dX8_houseful_5 : decode cX8_houseful 5 = .ok (.ifCond .eq 14, 3) := by decide +kernel
theorem dX8_houseful_8 : decode cX8_houseful 8 = .ok (.aload_n 0, 1) := by decide +kernel
theorem dX8_houseful_9 : decode cX8_houseful 9 = .ok (.iload_n 2, 1) := by decide +kernel
theorem dX8_houseful_10 : decode cX8_houseful 10 = .ok (.iconst (-1), 1) := by decide +kernel
theorem dX8_houseful_11 : decode cX8_houseful 11 = .ok (.bipush 39, 2) := by decide +kernel
theorem dX8_houseful_13 : decode cX8_houseful 13 = .ok (.invokevirtual 150, 3) := by decide +kernel
theorem dX8_houseful_16 : decode cX8_houseful 16 = .ok (.ifCond .ne 5, 3) := by decide +kernel
theorem dX8_houseful_19 : decode cX8_houseful 19 = .ok (.iconst (-1), 1) := by decide +kernel
theorem dX8_houseful_20 : decode cX8_houseful 20 = .ok (.ireturn, 1) := by decide +kernel
theorem dX8_houseful_21 : decode cX8_houseful 21 = .ok (.iconst 0, 1) := by decide +kernel
theorem dX8_houseful_22 : decode cX8_houseful 22 = .ok (.istore_n 3, 1) := by decide +kernel
theorem dX8_houseful_23 : decode cX8_houseful 23 = .ok (.iconst 0, 1) := by decide +kernel
theorem dX8_houseful_24 : decode cX8_houseful 24 = .ok (.istore 4, 2) := by decide +kernel
theorem dX8_houseful_26 : decode cX8_houseful 26 = .ok (.iload 4, 2) := by decide +kernel
theorem dX8_houseful_28 : decode cX8_houseful 28 = .ok (.aload_n 0, 1) := by decide +kernel
theorem dX8_houseful_29 : decode cX8_houseful 29 = .ok (.getfield 16, 3) := by decide +kernel
theorem dX8_houseful_32 : decode cX8_houseful 32 = .ok (.if_icmp .ge 82, 3) := by decide +kernel
theorem dX8_houseful_35 : decode cX8_houseful 35 = .ok (.iconst 1, 1) := by decide +kernel
theorem dX8_houseful_36 : decode cX8_houseful 36 = .ok (.istore 5, 2) := by decide +kernel
theorem dX8_houseful_38 : decode cX8_houseful 38 = .ok (.iload_n 2, 1) := by decide +kernel
theorem dX8_houseful_39 : decode cX8_houseful 39 = .ok (.ifCond .ge 7, 3) := by decide +kernel
theorem dX8_houseful_42 : decode cX8_houseful 42 = .ok (.iconst 0, 1) := by decide +kernel
theorem dX8_houseful_43 : decode cX8_houseful 43 = .ok (.goto 4, 3) := by decide +kernel
theorem dX8_houseful_46 : decode cX8_houseful 46 = .ok (.iload_n 2, 1) := by decide +kernel
theorem dX8_houseful_47 : decode cX8_houseful 47 = .ok (.istore 6, 2) := by decide +kernel
theorem dX8_houseful_49 : decode cX8_houseful 49 = .ok (.iload 6, 2) := by decide +kernel
theorem dX8_houseful_51 : decode cX8_houseful 51 = .ok (.iload_n 2, 1) := by decide +kernel
theorem dX8_houseful_52 : decode cX8_houseful 52 = .ok (.ifCond .ge 12, 3) := by decide +kernel
theorem dX8_houseful_55 : decode cX8_houseful 55 = .ok (.iconst 2, 1) := by decide +kernel
theorem dX8_houseful_56 : decode cX8_houseful 56 = .ok (.aload_n 0, 1) := by decide +kernel
theorem dX8_houseful_57 : decode cX8_houseful 57 = .ok (.getfield 19, 3) := by decide +kernel
theorem dX8_houseful_60 : decode cX8_houseful 60 = .ok (.imul, 1) := by decide +kernel
theorem dX8_houseful_61 : decode cX8_houseful 61 = .ok (.goto 6, 3) := by decide +kernel
theorem dX8_houseful_64 : decode cX8_houseful 64 = .ok (.iload_n 2, 1) := by decide +kernel
theorem dX8_houseful_65 : decode cX8_houseful 65 = .ok (.iconst 1, 1) := by decide +kernel
theorem dX8_houseful_66 : decode cX8_houseful 66 = .ok (.iadd, 1) := by decide +kernel
theorem dX8_houseful_67 : decode cX8_houseful 67 = .ok (.if_icmp .ge 25, 3) := by decide +kernel
theorem dX8_houseful_70 : decode cX8_houseful 70 = .ok (.iload 5, 2) := by decide +kernel
theorem dX8_houseful_72 : decode cX8_houseful 72 = .ok (.ifCond .eq 20, 3) := by decide +kernel
theorem dX8_houseful_75 : decode cX8_houseful 75 = .ok (.aload_n 0, 1) := by decide +kernel
theorem dX8_houseful_76 : decode cX8_houseful 76 = .ok (.iload_n 1, 1) := by decide +kernel
theorem dX8_houseful_77 : decode cX8_houseful 77 = .ok (.iload 4, 2) := by decide +kernel
theorem dX8_houseful_79 : decode cX8_houseful 79 = .ok (.iload 6, 2) := by decide +kernel
theorem dX8_houseful_81 : decode cX8_houseful 81 = .ok (.invokevirtual 275, 3) := by decide +kernel
theorem dX8_houseful_84 : decode cX8_houseful 84 = .ok (.istore 5, 2) := by decide +kernel
theorem dX8_houseful_86 : decode cX8_houseful 86 = .ok (.iinc 6 1, 3) := by decide +kernel
theorem dX8_houseful_89 : decode cX8_houseful 89 = .ok (.goto (-40), 3) := by decide +kernel
theorem dX8_houseful_92 : decode cX8_houseful 92 = .ok (.iload_n 3, 1) := by decide +kernel
theorem dX8_houseful_93 : decode cX8_houseful 93 = .ok (.iload 5, 2) := by decide +kernel
theorem dX8_houseful_95 : decode cX8_houseful 95 = .ok (.ifCond .eq 10, 3) := by decide +kernel
theorem dX8_houseful_98 : decode cX8_houseful 98 = .ok (.iconst 1, 1) := by decide +kernel
theorem dX8_houseful_99 : decode cX8_houseful 99 = .ok (.iload 4, 2) := by decide +kernel
theorem dX8_houseful_101 : decode cX8_houseful 101 = .ok (.ishl, 1) := by decide +kernel
theorem dX8_houseful_102 : decode cX8_houseful 102 = .ok (.goto 4, 3) := by decide +kernel
theorem dX8_houseful_105 : decode cX8_houseful 105 = .ok (.iconst 0, 1) := by decide +kernel
theorem dX8_houseful_106 : decode cX8_houseful 106 = .ok (.ior, 1) := by decide +kernel
theorem dX8_houseful_107 : decode cX8_houseful 107 = .ok (.istore_n 3, 1) := by decide +kernel
theorem dX8_houseful_108 : decode cX8_houseful 108 = .ok (.iinc 4 1, 3) := by decide +kernel
theorem dX8_houseful_111 : decode cX8_houseful 111 = .ok (.goto (-85), 3) := by decide +kernel
theorem dX8_houseful_114 : decode cX8_houseful 114 = .ok (.iload_n 3, 1) := by decide +kernel
theorem dX8_houseful_115 : decode cX8_houseful 115 = .ok (.ireturn, 1) := by decide +kernel
theorem dX8_drawn_0 : decode cX8_drawn 0 = .ok (.aload_n 0, 1) := by decide +kernel
theorem dX8_drawn_1 : decode cX8_drawn 1 = .ok (.iload_n 1, 1) := by decide +kernel
theorem dX8_drawn_2 : decode cX8_drawn 2 = .ok (.invokevirtual 272, 3) := by decide +kernel
theorem dX8_drawn_5 : decode cX8_drawn 5 = .ok (.ifCond .eq 22, 3) := by decide +kernel
theorem dX8_drawn_8 : decode cX8_drawn 8 = .ok (.aload_n 0, 1) := by decide +kernel
theorem dX8_drawn_9 : decode cX8_drawn 9 = .ok (.iload_n 2, 1) := by decide +kernel
theorem dX8_drawn_10 : decode cX8_drawn 10 = .ok (.invokevirtual 160, 3) := by decide +kernel
theorem dX8_drawn_13 : decode cX8_drawn 13 = .ok (.ifCond .eq 14, 3) := by decide +kernel
theorem dX8_drawn_16 : decode cX8_drawn 16 = .ok (.aload_n 0, 1) := by decide +kernel
theorem dX8_drawn_17 : decode cX8_drawn 17 = .ok (.iload_n 3, 1) := by decide +kernel
theorem dX8_drawn_18 : decode cX8_drawn 18 = .ok (.iconst 0, 1) := by decide +kernel
theorem dX8_drawn_19 : decode cX8_drawn 19 = .ok (.bipush 39, 2) := by decide +kernel
theorem dX8_drawn_21 : decode cX8_drawn 21 = .ok (.invokevirtual 150, 3) := by decide +kernel
theorem dX8_drawn_24 : decode cX8_drawn 24 = .ok (.ifCond .ne 5, 3) := by decide +kernel
theorem dX8_drawn_27 : decode cX8_drawn 27 = .ok (.iconst (-1), 1) := by decide +kernel
theorem dX8_drawn_28 : decode cX8_drawn 28 = .ok (.ireturn, 1) := by decide +kernel
theorem dX8_drawn_29 : decode cX8_drawn 29 = .ok (.bipush (-5), 2) := by decide +kernel
theorem dX8_drawn_31 : decode cX8_drawn 31 = .ok (.istore 4, 2) := by decide +kernel
theorem dX8_drawn_33 : decode cX8_drawn 33 = .ok (.iconst 0, 1) := by decide +kernel
theorem dX8_drawn_34 : decode cX8_drawn 34 = .ok (.istore 5, 2) := by decide +kernel
theorem dX8_drawn_36 : decode cX8_drawn 36 = .ok (.aload_n 0, 1) := by decide +kernel
theorem dX8_drawn_37 : decode cX8_drawn 37 = .ok (.getfield 7, 3) := by decide +kernel
theorem dX8_drawn_40 : decode cX8_drawn 40 = .ok (.iload 5, 2) := by decide +kernel
theorem dX8_drawn_42 : decode cX8_drawn 42 = .ok (.iadd, 1) := by decide +kernel
theorem dX8_drawn_43 : decode cX8_drawn 43 = .ok (.bipush 41, 2) := by decide +kernel
theorem dX8_drawn_45 : decode cX8_drawn 45 = .ok (.if_icmp .ge 36, 3) := by decide +kernel
theorem dX8_drawn_48 : decode cX8_drawn 48 = .ok (.aload_n 0, 1) := by decide +kernel
theorem dX8_drawn_49 : decode cX8_drawn 49 = .ok (.iload_n 1, 1) := by decide +kernel
theorem dX8_drawn_50 : decode cX8_drawn 50 = .ok (.iload_n 2, 1) := by decide +kernel
theorem dX8_drawn_51 : decode cX8_drawn 51 = .ok (.iload_n 3, 1) := by decide +kernel
theorem dX8_drawn_52 : decode cX8_drawn 52 = .ok (.aload_n 0, 1) := by decide +kernel
theorem dX8_drawn_53 : decode cX8_drawn 53 = .ok (.getfield 7, 3) := by decide +kernel
theorem dX8_drawn_56 : decode cX8_drawn 56 = .ok (.iload 5, 2) := by decide +kernel
theorem dX8_drawn_58 : decode cX8_drawn 58 = .ok (.iadd, 1) := by decide +kernel
theorem dX8_drawn_59 : decode cX8_drawn 59 = .ok (.iconst 0, 1) := by decide +kernel
theorem dX8_drawn_60 : decode cX8_drawn 60 = .ok (.invokevirtual 265, 3) := by decide +kernel
theorem dX8_drawn_63 : decode cX8_drawn 63 = .ok (.ifCond .eq 8, 3) := by decide +kernel
theorem dX8_drawn_66 : decode cX8_drawn 66 = .ok (.iload 5, 2) := by decide +kernel
theorem dX8_drawn_68 : decode cX8_drawn 68 = .ok (.goto 5, 3) := by decide +kernel
theorem dX8_drawn_71 : decode cX8_drawn 71 = .ok (.iload 4, 2) := by decide +kernel
theorem dX8_drawn_73 : decode cX8_drawn 73 = .ok (.istore 4, 2) := by decide +kernel
theorem dX8_drawn_75 : decode cX8_drawn 75 = .ok (.iinc 5 1, 3) := by decide +kernel
theorem dX8_drawn_78 : decode cX8_drawn 78 = .ok (.goto (-42), 3) := by decide +kernel
theorem dX8_drawn_81 : decode cX8_drawn 81 = .ok (.iload 4, 2) := by decide +kernel
theorem dX8_drawn_83 : decode cX8_drawn 83 = .ok (.ireturn, 1) := by decide +kernel
theorem dX8_latest_0 : decode cX8_latest 0 = .ok (.aload_n 0, 1) := by decide +kernel
theorem dX8_latest_1 : decode cX8_latest 1 = .ok (.iload_n 1, 1) := by decide +kernel
theorem dX8_latest_2 : decode cX8_latest 2 = .ok (.invokevirtual 272, 3) := by decide +kernel
theorem dX8_latest_5 : decode cX8_latest 5 = .ok (.ifCond .eq 11, 3) := by decide +kernel
theorem dX8_latest_8 : decode cX8_latest 8 = .ok (.aload_n 0, 1) := by decide +kernel
theorem dX8_latest_9 : decode cX8_latest 9 = .ok (.iload_n 2, 1) := by decide +kernel
theorem dX8_latest_10 : decode cX8_latest 10 = .ok (.invokevirtual 160, 3) := by decide +kernel
theorem dX8_latest_13 : decode cX8_latest 13 = .ok (.ifCond .ne 5, 3) := by decide +kernel
theorem dX8_latest_16 : decode cX8_latest 16 = .ok (.iconst (-1), 1) := by decide +kernel
theorem dX8_latest_17 : decode cX8_latest 17 = .ok (.ireturn, 1) := by decide +kernel
theorem dX8_latest_18 : decode cX8_latest 18 = .ok (.bipush 20, 2) := by decide +kernel
theorem dX8_latest_20 : decode cX8_latest 20 = .ok (.istore_n 3, 1) := by decide +kernel
theorem dX8_latest_21 : decode cX8_latest 21 = .ok (.iload_n 3, 1) := by decide +kernel
theorem dX8_latest_22 : decode cX8_latest 22 = .ok (.ifCond .lt 59, 3) := by decide +kernel
theorem dX8_latest_25 : decode cX8_latest 25 = .ok (.iconst 1, 1) := by decide +kernel
theorem dX8_latest_26 : decode cX8_latest 26 = .ok (.istore 4, 2) := by decide +kernel
theorem dX8_latest_28 : decode cX8_latest 28 = .ok (.iconst 0, 1) := by decide +kernel
theorem dX8_latest_29 : decode cX8_latest 29 = .ok (.istore 5, 2) := by decide +kernel
theorem dX8_latest_31 : decode cX8_latest 31 = .ok (.iload 5, 2) := by decide +kernel
theorem dX8_latest_33 : decode cX8_latest 33 = .ok (.iconst 2, 1) := by decide +kernel
theorem dX8_latest_34 : decode cX8_latest 34 = .ok (.aload_n 0, 1) := by decide +kernel
theorem dX8_latest_35 : decode cX8_latest 35 = .ok (.getfield 19, 3) := by decide +kernel
theorem dX8_latest_38 : decode cX8_latest 38 = .ok (.imul, 1) := by decide +kernel
theorem dX8_latest_39 : decode cX8_latest 39 = .ok (.if_icmp .ge 29, 3) := by decide +kernel
theorem dX8_latest_42 : decode cX8_latest 42 = .ok (.iload 4, 2) := by decide +kernel
theorem dX8_latest_44 : decode cX8_latest 44 = .ok (.ifCond .eq 24, 3) := by decide +kernel
theorem dX8_latest_47 : decode cX8_latest 47 = .ok (.aload_n 0, 1) := by decide +kernel
theorem dX8_latest_48 : decode cX8_latest 48 = .ok (.iload_n 1, 1) := by decide +kernel
theorem dX8_latest_49 : decode cX8_latest 49 = .ok (.iload_n 2, 1) := by decide +kernel
theorem dX8_latest_50 : decode cX8_latest 50 = .ok (.iload 5, 2) := by decide +kernel
theorem dX8_latest_52 : decode cX8_latest 52 = .ok (.aload_n 0, 1) := by decide +kernel
theorem dX8_latest_53 : decode cX8_latest 53 = .ok (.getfield 13, 3) := by decide +kernel
theorem dX8_latest_56 : decode cX8_latest 56 = .ok (.iload_n 3, 1) := by decide +kernel
theorem dX8_latest_57 : decode cX8_latest 57 = .ok (.invokevirtual 265, 3) := by decide +kernel
theorem dX8_latest_60 : decode cX8_latest 60 = .ok (.istore 4, 2) := by decide +kernel
theorem dX8_latest_62 : decode cX8_latest 62 = .ok (.iinc 5 1, 3) := by decide +kernel
theorem dX8_latest_65 : decode cX8_latest 65 = .ok (.goto (-34), 3) := by decide +kernel
theorem dX8_latest_68 : decode cX8_latest 68 = .ok (.iload 4, 2) := by decide +kernel
theorem dX8_latest_70 : decode cX8_latest 70 = .ok (.ifCond .eq 5, 3) := by decide +kernel
theorem dX8_latest_73 : decode cX8_latest 73 = .ok (.iload_n 3, 1) := by decide +kernel
theorem dX8_latest_74 : decode cX8_latest 74 = .ok (.ireturn, 1) := by decide +kernel
theorem dX8_latest_75 : decode cX8_latest 75 = .ok (.iinc 3 (-1), 3) := by decide +kernel
theorem dX8_latest_78 : decode cX8_latest 78 = .ok (.goto (-57), 3) := by decide +kernel
theorem dX8_latest_81 : decode cX8_latest 81 = .ok (.bipush (-5), 2) := by decide +kernel
theorem dX8_latest_83 : decode cX8_latest 83 = .ok (.ireturn, 1) := by decide +kernel
theorem dX8_wrong_0 : decode cX8_wrong 0 = .ok (.aload_n 0, 1) := by decide +kernel
theorem dX8_wrong_1 : decode cX8_wrong 1 = .ok (.iload_n 1, 1) := by decide +kernel
theorem dX8_wrong_2 : decode cX8_wrong 2 = .ok (.invokevirtual 272, 3) := by decide +kernel
theorem dX8_wrong_5 : decode cX8_wrong 5 = .ok (.ifCond .eq 11, 3) := by decide +kernel
theorem dX8_wrong_8 : decode cX8_wrong 8 = .ok (.aload_n 0, 1) := by decide +kernel
theorem dX8_wrong_9 : decode cX8_wrong 9 = .ok (.iload_n 2, 1) := by decide +kernel
theorem dX8_wrong_10 : decode cX8_wrong 10 = .ok (.invokevirtual 160, 3) := by decide +kernel
theorem dX8_wrong_13 : decode cX8_wrong 13 = .ok (.ifCond .ne 5, 3) := by decide +kernel
theorem dX8_wrong_16 : decode cX8_wrong 16 = .ok (.iconst (-1), 1) := by decide +kernel
theorem dX8_wrong_17 : decode cX8_wrong 17 = .ok (.ireturn, 1) := by decide +kernel
theorem dX8_wrong_18 : decode cX8_wrong 18 = .ok (.iconst 0, 1) := by decide +kernel
theorem dX8_wrong_19 : decode cX8_wrong 19 = .ok (.istore_n 3, 1) := by decide +kernel
theorem dX8_wrong_20 : decode cX8_wrong 20 = .ok (.iconst 0, 1) := by decide +kernel
theorem dX8_wrong_21 : decode cX8_wrong 21 = .ok (.istore 4, 2) := by decide +kernel
theorem dX8_wrong_23 : decode cX8_wrong 23 = .ok (.iload 4, 2) := by decide +kernel
theorem dX8_wrong_25 : decode cX8_wrong 25 = .ok (.aload_n 0, 1) := by decide +kernel
theorem dX8_wrong_26 : decode cX8_wrong 26 = .ok (.getfield 19, 3) := by decide +kernel
theorem dX8_wrong_29 : decode cX8_wrong 29 = .ok (.if_icmp .ge 28, 3) := by decide +kernel
theorem dX8_wrong_32 : decode cX8_wrong 32 = .ok (.iload_n 3, 1) := by decide +kernel
theorem dX8_wrong_33 : decode cX8_wrong 33 = .ok (.aload_n 0, 1) := by decide +kernel
theorem dX8_wrong_34 : decode cX8_wrong 34 = .ok (.iload_n 1, 1) := by decide +kernel
theorem dX8_wrong_35 : decode cX8_wrong 35 = .ok (.iload_n 2, 1) := by decide +kernel
theorem dX8_wrong_36 : decode cX8_wrong 36 = .ok (.iload 4, 2) := by decide +kernel
theorem dX8_wrong_38 : decode cX8_wrong 38 = .ok (.invokevirtual 284, 3) := by decide +kernel
theorem dX8_wrong_41 : decode cX8_wrong 41 = .ok (.ifCond .eq 7, 3) := by decide +kernel
theorem dX8_wrong_44 : decode cX8_wrong 44 = .ok (.iconst 0, 1) := by decide +kernel
theorem dX8_wrong_45 : decode cX8_wrong 45 = .ok (.goto 4, 3) := by decide +kernel
theorem dX8_wrong_48 : decode cX8_wrong 48 = .ok (.iconst 1, 1) := by decide +kernel
theorem dX8_wrong_49 : decode cX8_wrong 49 = .ok (.iadd, 1) := by decide +kernel
theorem dX8_wrong_50 : decode cX8_wrong 50 = .ok (.istore_n 3, 1) := by decide +kernel
theorem dX8_wrong_51 : decode cX8_wrong 51 = .ok (.iinc 4 1, 3) := by decide +kernel
theorem dX8_wrong_54 : decode cX8_wrong 54 = .ok (.goto (-31), 3) := by decide +kernel
theorem dX8_wrong_57 : decode cX8_wrong 57 = .ok (.iload_n 3, 1) := by decide +kernel
theorem dX8_wrong_58 : decode cX8_wrong 58 = .ok (.ireturn, 1) := by decide +kernel
theorem dX8_swap_0 : decode cX8_swap 0 = .ok (.aload_n 0, 1) := by decide +kernel
theorem dX8_swap_1 : decode cX8_swap 1 = .ok (.iload_n 1, 1) := by decide +kernel
theorem dX8_swap_2 : decode cX8_swap 2 = .ok (.invokevirtual 272, 3) := by decide +kernel
theorem dX8_swap_5 : decode cX8_swap 5 = .ok (.ifCond .eq 28, 3) := by decide +kernel
theorem dX8_swap_8 : decode cX8_swap 8 = .ok (.aload_n 0, 1) := by decide +kernel
theorem dX8_swap_9 : decode cX8_swap 9 = .ok (.iload_n 2, 1) := by decide +kernel
theorem dX8_swap_10 : decode cX8_swap 10 = .ok (.iconst 0, 1) := by decide +kernel
theorem dX8_swap_11 : decode cX8_swap 11 = .ok (.aload_n 0, 1) := by decide +kernel
theorem dX8_swap_12 : decode cX8_swap 12 = .ok (.getfield 19, 3) := by decide +kernel
theorem dX8_swap_15 : decode cX8_swap 15 = .ok (.iconst 1, 1) := by decide +kernel
theorem dX8_swap_16 : decode cX8_swap 16 = .ok (.isub, 1) := by decide +kernel
theorem dX8_swap_17 : decode cX8_swap 17 = .ok (.invokevirtual 150, 3) := by decide +kernel
theorem dX8_swap_20 : decode cX8_swap 20 = .ok (.ifCond .eq 13, 3) := by decide +kernel
theorem dX8_swap_23 : decode cX8_swap 23 = .ok (.aload_n 0, 1) := by decide +kernel
theorem dX8_swap_24 : decode cX8_swap 24 = .ok (.iload_n 3, 1) := by decide +kernel
theorem dX8_swap_25 : decode cX8_swap 25 = .ok (.iconst 0, 1) := by decide +kernel
theorem dX8_swap_26 : decode cX8_swap 26 = .ok (.iconst 1, 1) := by decide +kernel
theorem dX8_swap_27 : decode cX8_swap 27 = .ok (.invokevirtual 150, 3) := by decide +kernel
theorem dX8_swap_30 : decode cX8_swap 30 = .ok (.ifCond .ne 5, 3) := by decide +kernel
theorem dX8_swap_33 : decode cX8_swap 33 = .ok (.iconst (-1), 1) := by decide +kernel
theorem dX8_swap_34 : decode cX8_swap 34 = .ok (.ireturn, 1) := by decide +kernel
theorem dX8_swap_35 : decode cX8_swap 35 = .ok (.iconst 0, 1) := by decide +kernel
theorem dX8_swap_36 : decode cX8_swap 36 = .ok (.istore 4, 2) := by decide +kernel
theorem dX8_swap_38 : decode cX8_swap 38 = .ok (.iconst (-1), 1) := by decide +kernel
theorem dX8_swap_39 : decode cX8_swap 39 = .ok (.istore 5, 2) := by decide +kernel
theorem dX8_swap_41 : decode cX8_swap 41 = .ok (.iconst 0, 1) := by decide +kernel
theorem dX8_swap_42 : decode cX8_swap 42 = .ok (.istore 6, 2) := by decide +kernel
theorem dX8_swap_44 : decode cX8_swap 44 = .ok (.iload 6, 2) := by decide +kernel
theorem dX8_swap_46 : decode cX8_swap 46 = .ok (.bipush 10, 2) := by decide +kernel
theorem dX8_swap_48 : decode cX8_swap 48 = .ok (.if_icmp .ge 77, 3) := by decide +kernel
theorem dX8_swap_51 : decode cX8_swap 51 = .ok (.iconst 0, 1) := by decide +kernel
theorem dX8_swap_52 : decode cX8_swap 52 = .ok (.istore 7, 2) := by decide +kernel
theorem dX8_swap_54 : decode cX8_swap 54 = .ok (.iconst 0, 1) := by decide +kernel
theorem dX8_swap_55 : decode cX8_swap 55 = .ok (.istore 8, 2) := by decide +kernel
theorem dX8_swap_57 : decode cX8_swap 57 = .ok (.iload 8, 2) := by decide +kernel
theorem dX8_swap_59 : decode cX8_swap 59 = .ok (.aload_n 0, 1) := by decide +kernel
theorem dX8_swap_60 : decode cX8_swap 60 = .ok (.getfield 16, 3) := by decide +kernel
theorem dX8_swap_63 : decode cX8_swap 63 = .ok (.if_icmp .ge 38, 3) := by decide +kernel
theorem dX8_swap_66 : decode cX8_swap 66 = .ok (.iload 7, 2) := by decide +kernel
theorem dX8_swap_68 : decode cX8_swap 68 = .ok (.aload_n 0, 1) := by decide +kernel
theorem dX8_swap_69 : decode cX8_swap 69 = .ok (.iload_n 1, 1) := by decide +kernel
theorem dX8_swap_70 : decode cX8_swap 70 = .ok (.iload 8, 2) := by decide +kernel
theorem dX8_swap_72 : decode cX8_swap 72 = .ok (.iload_n 2, 1) := by decide +kernel
theorem dX8_swap_73 : decode cX8_swap 73 = .ok (.iload 6, 2) := by decide +kernel
theorem dX8_swap_75 : decode cX8_swap 75 = .ok (.invokevirtual 281, 3) := by decide +kernel
theorem dX8_swap_78 : decode cX8_swap 78 = .ok (.aload_n 0, 1) := by decide +kernel
theorem dX8_swap_79 : decode cX8_swap 79 = .ok (.getfield 36, 3) := by decide +kernel
theorem dX8_swap_82 : decode cX8_swap 82 = .ok (.iload_n 2, 1) := by decide +kernel
theorem dX8_swap_83 : decode cX8_swap 83 = .ok (.iaload, 1) := by decide +kernel
theorem dX8_swap_84 : decode cX8_swap 84 = .ok (.if_icmp .ne 7, 3) := by decide +kernel
theorem dX8_swap_87 : decode cX8_swap 87 = .ok (.iconst 1, 1) := by decide +kernel
theorem dX8_swap_88 : decode cX8_swap 88 = .ok (.goto 4, 3) := by decide +kernel
theorem dX8_swap_91 : decode cX8_swap 91 = .ok (.iconst 0, 1) := by decide +kernel
theorem dX8_swap_92 : decode cX8_swap 92 = .ok (.iadd, 1) := by decide +kernel
theorem dX8_swap_93 : decode cX8_swap 93 = .ok (.istore 7, 2) := by decide +kernel
theorem dX8_swap_95 : decode cX8_swap 95 = .ok (.iinc 8 1, 3) := by decide +kernel
theorem dX8_swap_98 : decode cX8_swap 98 = .ok (.goto (-41), 3) := by decide +kernel
theorem dX8_swap_101 : decode cX8_swap 101 = .ok (.iload 7, 2) := by decide +kernel
theorem dX8_swap_103 : decode cX8_swap 103 = .ok (.iload 5, 2) := by decide +kernel
theorem dX8_swap_105 : decode cX8_swap 105 = .ok (.if_icmp .gt 6, 3) := by decide +kernel
theorem dX8_swap_108 : decode cX8_swap 108 = .ok (.goto 11, 3) := by decide +kernel
theorem dX8_swap_111 : decode cX8_swap 111 = .ok (.iload 6, 2) := by decide +kernel
theorem dX8_swap_113 : decode cX8_swap 113 = .ok (.istore 4, 2) := by decide +kernel
theorem dX8_swap_115 : decode cX8_swap 115 = .ok (.iload 7, 2) := by decide +kernel
theorem dX8_swap_117 : decode cX8_swap 117 = .ok (.istore 5, 2) := by decide +kernel
theorem dX8_swap_119 : decode cX8_swap 119 = .ok (.iinc 6 1, 3) := by decide +kernel
theorem dX8_swap_122 : decode cX8_swap 122 = .ok (.goto (-78), 3) := by decide +kernel
theorem dX8_swap_125 : decode cX8_swap 125 = .ok (.iload_n 3, 1) := by decide +kernel
theorem dX8_swap_126 : decode cX8_swap 126 = .ok (.ifCond .ne 8, 3) := by decide +kernel
theorem dX8_swap_129 : decode cX8_swap 129 = .ok (.iload 4, 2) := by decide +kernel
theorem dX8_swap_131 : decode cX8_swap 131 = .ok (.goto 5, 3) := by decide +kernel
theorem dX8_swap_134 : decode cX8_swap 134 = .ok (.iload 5, 2) := by decide +kernel
theorem dX8_swap_136 : decode cX8_swap 136 = .ok (.ireturn, 1) := by decide +kernel
theorem dX8_changed_0 : decode cX8_changed 0 = .ok (.aload_n 0, 1) := by decide +kernel
theorem dX8_changed_1 : decode cX8_changed 1 = .ok (.iload_n 1, 1) := by decide +kernel
theorem dX8_changed_2 : decode cX8_changed 2 = .ok (.invokevirtual 272, 3) := by decide +kernel
theorem dX8_changed_5 : decode cX8_changed 5 = .ok (.ifCond .eq 11, 3) := by decide +kernel
theorem dX8_changed_8 : decode cX8_changed 8 = .ok (.aload_n 0, 1) := by decide +kernel
theorem dX8_changed_9 : decode cX8_changed 9 = .ok (.iload_n 2, 1) := by decide +kernel
theorem dX8_changed_10 : decode cX8_changed 10 = .ok (.invokevirtual 160, 3) := by decide +kernel
theorem dX8_changed_13 : decode cX8_changed 13 = .ok (.ifCond .ne 5, 3) := by decide +kernel
theorem dX8_changed_16 : decode cX8_changed 16 = .ok (.iconst (-1), 1) := by decide +kernel
theorem dX8_changed_17 : decode cX8_changed 17 = .ok (.ireturn, 1) := by decide +kernel
theorem dX8_changed_18 : decode cX8_changed 18 = .ok (.iconst 0, 1) := by decide +kernel
theorem dX8_changed_19 : decode cX8_changed 19 = .ok (.istore_n 3, 1) := by decide +kernel
theorem dX8_changed_20 : decode cX8_changed 20 = .ok (.iconst 0, 1) := by decide +kernel
theorem dX8_changed_21 : decode cX8_changed 21 = .ok (.istore 4, 2) := by decide +kernel
theorem dX8_changed_23 : decode cX8_changed 23 = .ok (.iload 4, 2) := by decide +kernel
theorem dX8_changed_25 : decode cX8_changed 25 = .ok (.aload_n 0, 1) := by decide +kernel
theorem dX8_changed_26 : decode cX8_changed 26 = .ok (.getfield 19, 3) := by decide +kernel
theorem dX8_changed_29 : decode cX8_changed 29 = .ok (.if_icmp .ge 80, 3) := by decide +kernel
theorem dX8_changed_32 : decode cX8_changed 32 = .ok (.aload_n 0, 1) := by decide +kernel
theorem dX8_changed_33 : decode cX8_changed 33 = .ok (.iload_n 1, 1) := by decide +kernel
theorem dX8_changed_34 : decode cX8_changed 34 = .ok (.iload_n 2, 1) := by decide +kernel
theorem dX8_changed_35 : decode cX8_changed 35 = .ok (.iload 4, 2) := by decide +kernel
theorem dX8_changed_37 : decode cX8_changed 37 = .ok (.invokevirtual 284, 3) := by decide +kernel
theorem dX8_changed_40 : decode cX8_changed 40 = .ok (.istore 5, 2) := by decide +kernel
theorem dX8_changed_42 : decode cX8_changed 42 = .ok (.iconst 0, 1) := by decide +kernel
theorem dX8_changed_43 : decode cX8_changed 43 = .ok (.istore 6, 2) := by decide +kernel
theorem dX8_changed_45 : decode cX8_changed 45 = .ok (.iload 6, 2) := by decide +kernel
theorem dX8_changed_47 : decode cX8_changed 47 = .ok (.bipush 10, 2) := by decide +kernel
theorem dX8_changed_49 : decode cX8_changed 49 = .ok (.if_icmp .ge 41, 3) := by decide +kernel
theorem dX8_changed_52 : decode cX8_changed 52 = .ok (.iload 5, 2) := by decide +kernel
theorem dX8_changed_54 : decode cX8_changed 54 = .ok (.ifCond .ne 23, 3) := by decide +kernel
theorem dX8_changed_57 : decode cX8_changed 57 = .ok (.aload_n 0, 1) := by decide +kernel
theorem dX8_changed_58 : decode cX8_changed 58 = .ok (.iload_n 1, 1) := by decide +kernel
theorem dX8_changed_59 : decode cX8_changed 59 = .ok (.iload_n 2, 1) := by decide +kernel
theorem dX8_changed_60 : decode cX8_changed 60 = .ok (.iload 4, 2) := by decide +kernel
theorem dX8_changed_62 : decode cX8_changed 62 = .ok (.iload 6, 2) := by decide +kernel
theorem dX8_changed_64 : decode cX8_changed 64 = .ok (.invokevirtual 281, 3) := by decide +kernel
theorem dX8_changed_67 : decode cX8_changed 67 = .ok (.aload_n 0, 1) := by decide +kernel
theorem dX8_changed_68 : decode cX8_changed 68 = .ok (.getfield 36, 3) := by decide +kernel
theorem dX8_changed_71 : decode cX8_changed 71 = .ok (.iload 4, 2) := by decide +kernel
theorem dX8_changed_73 : decode cX8_changed 73 = .ok (.iaload, 1) := by decide +kernel
theorem dX8_changed_74 : decode cX8_changed 74 = .ok (.if_icmp .ne 7, 3) := by decide +kernel
theorem dX8_changed_77 : decode cX8_changed 77 = .ok (.iconst 1, 1) := by decide +kernel
theorem dX8_changed_78 : decode cX8_changed 78 = .ok (.goto 4, 3) := by decide +kernel
theorem dX8_changed_81 : decode cX8_changed 81 = .ok (.iconst 0, 1) := by decide +kernel
theorem dX8_changed_82 : decode cX8_changed 82 = .ok (.istore 5, 2) := by decide +kernel
theorem dX8_changed_84 : decode cX8_changed 84 = .ok (.iinc 6 1, 3) := by decide +kernel
theorem dX8_changed_87 : decode cX8_changed 87 = .ok (.goto (-42), 3) := by decide +kernel
theorem dX8_changed_90 : decode cX8_changed 90 = .ok (.iload_n 3, 1) := by decide +kernel
theorem dX8_changed_91 : decode cX8_changed 91 = .ok (.iload 5, 2) := by decide +kernel
theorem dX8_changed_93 : decode cX8_changed 93 = .ok (.ifCond .eq 7, 3) := by decide +kernel
theorem dX8_changed_96 : decode cX8_changed 96 = .ok (.iconst 0, 1) := by decide +kernel
theorem dX8_changed_97 : decode cX8_changed 97 = .ok (.goto 4, 3) := by decide +kernel
theorem dX8_changed_100 : decode cX8_changed 100 = .ok (.iconst 1, 1) := by decide +kernel
theorem dX8_changed_101 : decode cX8_changed 101 = .ok (.iadd, 1) := by decide +kernel
theorem dX8_changed_102 : decode cX8_changed 102 = .ok (.istore_n 3, 1) := by decide +kernel
theorem dX8_changed_103 : decode cX8_changed 103 = .ok (.iinc 4 1, 3) := by decide +kernel
theorem dX8_changed_106 : decode cX8_changed 106 = .ok (.goto (-83), 3) := by decide +kernel
theorem dX8_changed_109 : decode cX8_changed 109 = .ok (.iload_n 3, 1) := by decide +kernel
theorem dX8_changed_110 : decode cX8_changed 110 = .ok (.ireturn, 1) := by decide +kernel
theorem dX8_boxes_0 : decode cX8_boxes 0 = .ok (.aload_n 0, 1) := by decide +kernel
theorem dX8_boxes_1 : decode cX8_boxes 1 = .ok (.iload_n 2, 1) := by decide +kernel
theorem dX8_boxes_2 : decode cX8_boxes 2 = .ok (.iconst 0, 1) := by decide +kernel
theorem dX8_boxes_3 : decode cX8_boxes 3 = .ok (.iconst 2, 1) := by decide +kernel
theorem dX8_boxes_4 : decode cX8_boxes 4 = .ok (.invokevirtual 150, 3) := by decide +kernel
theorem dX8_boxes_7 : decode cX8_boxes 7 = .ok (.ifCond .ne 5, 3) := by decide +kernel
theorem dX8_boxes_10 : decode cX8_boxes 10 = .ok (.iconst (-1), 1) := by decide +kernel
theorem dX8_boxes_11 : decode cX8_boxes 11 = .ok (.ireturn, 1) := by decide +kernel
theorem dX8_boxes_12 : decode cX8_boxes 12 = .ok (.aload_n 0, 1) := by decide +kernel
theorem dX8_boxes_13 : decode cX8_boxes 13 = .ok (.iload_n 1, 1) := by decide +kernel
theorem dX8_boxes_14 : decode cX8_boxes 14 = .ok (.iconst 1, 1) := by decide +kernel
theorem dX8_boxes_15 : decode cX8_boxes 15 = .ok (.iconst 2, 1) := by decide +kernel
theorem dX8_boxes_16 : decode cX8_boxes 16 = .ok (.invokevirtual 150, 3) := by decide +kernel
theorem dX8_boxes_19 : decode cX8_boxes 19 = .ok (.ifCond .ne 6, 3) := by decide +kernel
theorem dX8_boxes_22 : decode cX8_boxes 22 = .ok (.bipush (-2), 2) := by decide +kernel
theorem dX8_boxes_24 : decode cX8_boxes 24 = .ok (.ireturn, 1) := by decide +kernel
theorem dX8_boxes_25 : decode cX8_boxes 25 = .ok (.iconst 0, 1) := by decide +kernel
theorem dX8_boxes_26 : decode cX8_boxes 26 = .ok (.istore_n 3, 1) := by decide +kernel
theorem dX8_boxes_27 : decode cX8_boxes 27 = .ok (.iconst 0, 1) := by decide +kernel
theorem dX8_boxes_28 : decode cX8_boxes 28 = .ok (.istore 4, 2) := by decide +kernel
theorem dX8_boxes_30 : decode cX8_boxes 30 = .ok (.iconst (-1), 1) := by decide +kernel
theorem dX8_boxes_31 : decode cX8_boxes 31 = .ok (.istore 5, 2) := by decide +kernel
theorem dX8_boxes_33 : decode cX8_boxes 33 = .ok (.iconst 0, 1) := by decide +kernel
theorem dX8_boxes_34 : decode cX8_boxes 34 = .ok (.istore 6, 2) := by decide +kernel
theorem dX8_boxes_36 : decode cX8_boxes 36 = .ok (.iload 6, 2) := by decide +kernel
theorem dX8_boxes_38 : decode cX8_boxes 38 = .ok (.bipush 41, 2) := by decide +kernel
theorem dX8_boxes_40 : decode cX8_boxes 40 = .ok (.if_icmp .ge 140, 3) := by decide +kernel
theorem dX8_boxes_43 : decode cX8_boxes 43 = .ok (.iload_n 1, 1) := by decide +kernel
theorem dX8_boxes_44 : decode cX8_boxes 44 = .ok (.iconst 1, 1) := by decide +kernel
theorem dX8_boxes_45 : decode cX8_boxes 45 = .ok (.if_icmp .ne 8, 3) := by decide +kernel
theorem dX8_boxes_48 : decode cX8_boxes 48 = .ok (.iload 6, 2) := by decide +kernel
theorem dX8_boxes_50 : decode cX8_boxes 50 = .ok (.goto 7, 3) := by decide +kernel
theorem dX8_boxes_53 : decode cX8_boxes 53 = .ok (.iload 6, 2) := by decide +kernel
theorem dX8_boxes_55 : decode cX8_boxes 55 = .ok (.iconst 1, 1) := by decide +kernel
theorem dX8_boxes_56 : decode cX8_boxes 56 = .ok (.iadd, 1) := by decide +kernel
theorem dX8_boxes_57 : decode cX8_boxes 57 = .ok (.istore 7, 2) := by decide +kernel
theorem dX8_boxes_59 : decode cX8_boxes 59 = .ok (.iload 7, 2) := by decide +kernel
theorem dX8_boxes_61 : decode cX8_boxes 61 = .ok (.iload_n 1, 1) := by decide +kernel
theorem dX8_boxes_62 : decode cX8_boxes 62 = .ok (.iconst 1, 1) := by decide +kernel
theorem dX8_boxes_63 : decode cX8_boxes 63 = .ok (.if_icmp .ne 10, 3) := by decide +kernel
theorem dX8_boxes_66 : decode cX8_boxes 66 = .ok (.iload 6, 2) := by decide +kernel
theorem dX8_boxes_68 : decode cX8_boxes 68 = .ok (.iconst 1, 1) := by decide +kernel
theorem dX8_boxes_69 : decode cX8_boxes 69 = .ok (.iadd, 1) := by decide +kernel
theorem dX8_boxes_70 : decode cX8_boxes 70 = .ok (.goto 5, 3) := by decide +kernel
theorem dX8_boxes_73 : decode cX8_boxes 73 = .ok (.bipush 41, 2) := by decide +kernel
theorem dX8_boxes_75 : decode cX8_boxes 75 = .ok (.if_icmp .ge 99, 3) := by decide +kernel
theorem dX8_boxes_78 : decode cX8_boxes 78 = .ok (.iconst 0, 1) := by decide +kernel
theorem dX8_boxes_79 : decode cX8_boxes 79 = .ok (.istore 8, 2) := by decide +kernel
theorem dX8_boxes_81 : decode cX8_boxes 81 = .ok (.iconst 0, 1) := by decide +kernel
theorem dX8_boxes_82 : decode cX8_boxes 82 = .ok (.istore 9, 2) := by decide +kernel
theorem dX8_boxes_84 : decode cX8_boxes 84 = .ok (.iload 9, 2) := by decide +kernel
theorem dX8_boxes_86 : decode cX8_boxes 86 = .ok (.aload_n 0, 1) := by decide +kernel
theorem dX8_boxes_87 : decode cX8_boxes 87 = .ok (.getfield 16, 3) := by decide +kernel
theorem dX8_boxes_90 : decode cX8_boxes 90 = .ok (.if_icmp .ge 52, 3) := by decide +kernel
theorem dX8_boxes_93 : decode cX8_boxes 93 = .ok (.iload 8, 2) := by decide +kernel
theorem dX8_boxes_95 : decode cX8_boxes 95 = .ok (.aload_n 0, 1) := by decide +kernel
theorem dX8_boxes_96 : decode cX8_boxes 96 = .ok (.aload_n 0, 1) := by decide +kernel
theorem dX8_boxes_97 : decode cX8_boxes 97 = .ok (.iload 6, 2) := by decide +kernel
theorem dX8_boxes_99 : decode cX8_boxes 99 = .ok (.aload_n 0, 1) := by decide +kernel
theorem dX8_boxes_100 : decode cX8_boxes 100 = .ok (.getfield 33, 3) := by decide +kernel
theorem dX8_boxes_103 : decode cX8_boxes 103 = .ok (.iload 9, 2) := by decide +kernel
theorem dX8_boxes_105 : decode cX8_boxes 105 = .ok (.iaload, 1) := by decide +kernel
theorem dX8_boxes_106 : decode cX8_boxes 106 = .ok (.invokevirtual 233, 3) := by decide +kernel
theorem dX8_boxes_109 : decode cX8_boxes 109 = .ok (.aload_n 0, 1) := by decide +kernel
theorem dX8_boxes_110 : decode cX8_boxes 110 = .ok (.iload 7, 2) := by decide +kernel
theorem dX8_boxes_112 : decode cX8_boxes 112 = .ok (.aload_n 0, 1) := by decide +kernel
theorem dX8_boxes_113 : decode cX8_boxes 113 = .ok (.getfield 33, 3) := by decide +kernel
theorem dX8_boxes_116 : decode cX8_boxes 116 = .ok (.iload 9, 2) := by decide +kernel
theorem dX8_boxes_118 : decode cX8_boxes 118 = .ok (.iaload, 1) := by decide +kernel
theorem dX8_boxes_119 : decode cX8_boxes 119 = .ok (.invokevirtual 233, 3) := by decide +kernel
theorem dX8_boxes_122 : decode cX8_boxes 122 = .ok (.invokevirtual 247, 3) := by decide +kernel
theorem dX8_boxes_125 : decode cX8_boxes 125 = .ok (.aload_n 0, 1) := by decide +kernel
theorem dX8_boxes_126 : decode cX8_boxes 126 = .ok (.getfield 29, 3) := by decide +kernel
theorem dX8_boxes_129 : decode cX8_boxes 129 = .ok (.iload 9, 2) := by decide +kernel
theorem dX8_boxes_131 : decode cX8_boxes 131 = .ok (.iaload, 1) := by decide +kernel
theorem dX8_boxes_132 : decode cX8_boxes 132 = .ok (.imul, 1) := by decide +kernel
theorem dX8_boxes_133 : decode cX8_boxes 133 = .ok (.iadd, 1) := by decide +kernel
theorem dX8_boxes_134 : decode cX8_boxes 134 = .ok (.istore 8, 2) := by decide +kernel
theorem dX8_boxes_136 : decode cX8_boxes 136 = .ok (.iinc 9 1, 3) := by decide +kernel
theorem dX8_boxes_139 : decode cX8_boxes 139 = .ok (.goto (-55), 3) := by decide +kernel
theorem dX8_boxes_142 : decode cX8_boxes 142 = .ok (.iload 5, 2) := by decide +kernel
theorem dX8_boxes_144 : decode cX8_boxes 144 = .ok (.ifCond .lt 13, 3) := by decide +kernel
theorem dX8_boxes_147 : decode cX8_boxes 147 = .ok (.iload 8, 2) := by decide +kernel
theorem dX8_boxes_149 : decode cX8_boxes 149 = .ok (.iload 5, 2) := by decide +kernel
theorem dX8_boxes_151 : decode cX8_boxes 151 = .ok (.if_icmp .lt 6, 3) := by decide +kernel
theorem dX8_boxes_154 : decode cX8_boxes 154 = .ok (.goto 14, 3) := by decide +kernel
theorem dX8_boxes_157 : decode cX8_boxes 157 = .ok (.iload 8, 2) := by decide +kernel
theorem dX8_boxes_159 : decode cX8_boxes 159 = .ok (.istore 5, 2) := by decide +kernel
theorem dX8_boxes_161 : decode cX8_boxes 161 = .ok (.iload 6, 2) := by decide +kernel
theorem dX8_boxes_163 : decode cX8_boxes 163 = .ok (.istore_n 3, 1) := by decide +kernel
theorem dX8_boxes_164 : decode cX8_boxes 164 = .ok (.iload 7, 2) := by decide +kernel
theorem dX8_boxes_166 : decode cX8_boxes 166 = .ok (.istore 4, 2) := by decide +kernel
theorem dX8_boxes_168 : decode cX8_boxes 168 = .ok (.iinc 7 1, 3) := by decide +kernel
theorem dX8_boxes_171 : decode cX8_boxes 171 = .ok (.goto (-112), 3) := by decide +kernel
theorem dX8_boxes_174 : decode cX8_boxes 174 = .ok (.iinc 6 1, 3) := by decide +kernel
theorem dX8_boxes_177 : decode cX8_boxes 177 = .ok (.goto (-141), 3) := by decide +kernel
theorem dX8_boxes_180 : decode cX8_boxes 180 = .ok (.iload_n 2, 1) := by decide +kernel
theorem dX8_boxes_181 : decode cX8_boxes 181 = .ok (.ifCond .ne 7, 3) := by decide +kernel
theorem dX8_boxes_184 : decode cX8_boxes 184 = .ok (.iload_n 3, 1) := by decide +kernel
theorem dX8_boxes_185 : decode cX8_boxes 185 = .ok (.goto 25, 3) := by decide +kernel
theorem dX8_boxes_188 : decode cX8_boxes 188 = .ok (.iload_n 2, 1) := by decide +kernel
theorem dX8_boxes_189 : decode cX8_boxes 189 = .ok (.iconst 2, 1) := by decide +kernel
theorem dX8_boxes_190 : decode cX8_boxes 190 = .ok (.if_icmp .ne 8, 3) := by decide +kernel
theorem dX8_boxes_193 : decode cX8_boxes 193 = .ok (.iload 5, 2) := by decide +kernel
theorem dX8_boxes_195 : decode cX8_boxes 195 = .ok (.goto 15, 3) := by decide +kernel
theorem dX8_boxes_198 : decode cX8_boxes 198 = .ok (.iload_n 1, 1) := by decide +kernel
theorem dX8_boxes_199 : decode cX8_boxes 199 = .ok (.iconst 1, 1) := by decide +kernel
theorem dX8_boxes_200 : decode cX8_boxes 200 = .ok (.if_icmp .ne 8, 3) := by decide +kernel
theorem dX8_boxes_203 : decode cX8_boxes 203 = .ok (.bipush (-5), 2) := by decide +kernel
theorem dX8_boxes_205 : decode cX8_boxes 205 = .ok (.goto 5, 3) := by decide +kernel
theorem dX8_boxes_208 : decode cX8_boxes 208 = .ok (.iload 4, 2) := by decide +kernel
theorem dX8_boxes_210 : decode cX8_boxes 210 = .ok (.ireturn, 1) := by decide +kernel
theorem dX8_slips_0 : decode cX8_slips 0 = .ok (.aload_n 0, 1) := by decide +kernel
theorem dX8_slips_1 : decode cX8_slips 1 = .ok (.iload_n 1, 1) := by decide +kernel
theorem dX8_slips_2 : decode cX8_slips 2 = .ok (.iconst 0, 1) := by decide +kernel
theorem dX8_slips_3 : decode cX8_slips 3 = .ok (.bipush 10, 2) := by decide +kernel
theorem dX8_slips_5 : decode cX8_slips 5 = .ok (.invokevirtual 150, 3) := by decide +kernel
theorem dX8_slips_8 : decode cX8_slips 8 = .ok (.ifCond .ne 6, 3) := by decide +kernel
theorem dX8_slips_11 : decode cX8_slips 11 = .ok (.bipush (-2), 2) := by decide +kernel
theorem dX8_slips_13 : decode cX8_slips 13 = .ok (.ireturn, 1) := by decide +kernel
theorem dX8_slips_14 : decode cX8_slips 14 = .ok (.aload_n 0, 1) := by decide +kernel
theorem dX8_slips_15 : decode cX8_slips 15 = .ok (.getfield 22, 3) := by decide +kernel
theorem dX8_slips_18 : decode cX8_slips 18 = .ok (.istore_n 2, 1) := by decide +kernel
theorem dX8_slips_19 : decode cX8_slips 19 = .ok (.aload_n 0, 1) := by decide +kernel
theorem dX8_slips_20 : decode cX8_slips 20 = .ok (.iload_n 1, 1) := by decide +kernel
theorem dX8_slips_21 : decode cX8_slips 21 = .ok (.putfield 22, 3) := by decide +kernel
theorem dX8_slips_24 : decode cX8_slips 24 = .ok (.iload_n 2, 1) := by decide +kernel
theorem dX8_slips_25 : decode cX8_slips 25 = .ok (.ireturn, 1) := by decide +kernel
theorem dX8_divisor_0 : decode cX8_divisor 0 = .ok (.lload_n 1, 1) := by decide +kernel
theorem dX8_divisor_1 : decode cX8_divisor 1 = .ok (.lstore 5, 2) := by decide +kernel
theorem dX8_divisor_3 : decode cX8_divisor 3 = .ok (.lload_n 3, 1) := by decide +kernel
theorem dX8_divisor_4 : decode cX8_divisor 4 = .ok (.lstore 7, 2) := by decide +kernel
theorem dX8_divisor_6 : decode cX8_divisor 6 = .ok (.lload 7, 2) := by decide +kernel
theorem dX8_divisor_8 : decode cX8_divisor 8 = .ok (.lconst 0, 1) := by decide +kernel
theorem dX8_divisor_9 : decode cX8_divisor 9 = .ok (.lcmp, 1) := by decide +kernel
theorem dX8_divisor_10 : decode cX8_divisor 10 = .ok (.ifCond .eq 21, 3) := by decide +kernel
theorem dX8_divisor_13 : decode cX8_divisor 13 = .ok (.lload 5, 2) := by decide +kernel
theorem dX8_divisor_15 : decode cX8_divisor 15 = .ok (.lload 7, 2) := by decide +kernel
theorem dX8_divisor_17 : decode cX8_divisor 17 = .ok (.lrem, 1) := by decide +kernel
theorem dX8_divisor_18 : decode cX8_divisor 18 = .ok (.lstore 9, 2) := by decide +kernel
theorem dX8_divisor_20 : decode cX8_divisor 20 = .ok (.lload 7, 2) := by decide +kernel
theorem dX8_divisor_22 : decode cX8_divisor 22 = .ok (.lstore 5, 2) := by decide +kernel
theorem dX8_divisor_24 : decode cX8_divisor 24 = .ok (.lload 9, 2) := by decide +kernel
theorem dX8_divisor_26 : decode cX8_divisor 26 = .ok (.lstore 7, 2) := by decide +kernel
theorem dX8_divisor_28 : decode cX8_divisor 28 = .ok (.goto (-22), 3) := by decide +kernel
theorem dX8_divisor_31 : decode cX8_divisor 31 = .ok (.lload 5, 2) := by decide +kernel
theorem dX8_divisor_33 : decode cX8_divisor 33 = .ok (.lreturn, 1) := by decide +kernel
theorem dX8_sure_0 : decode cX8_sure 0 = .ok (.aload_n 0, 1) := by decide +kernel
theorem dX8_sure_1 : decode cX8_sure 1 = .ok (.iload_n 1, 1) := by decide +kernel
theorem dX8_sure_2 : decode cX8_sure 2 = .ok (.invokevirtual 272, 3) := by decide +kernel
theorem dX8_sure_5 : decode cX8_sure 5 = .ok (.ifCond .eq 33, 3) := by decide +kernel
theorem dX8_sure_8 : decode cX8_sure 8 = .ok (.aload_n 0, 1) := by decide +kernel
theorem dX8_sure_9 : decode cX8_sure 9 = .ok (.iload_n 2, 1) := by decide +kernel
theorem dX8_sure_10 : decode cX8_sure 10 = .ok (.invokevirtual 160, 3) := by decide +kernel
theorem dX8_sure_13 : decode cX8_sure 13 = .ok (.ifCond .eq 25, 3) := by decide +kernel
theorem dX8_sure_16 : decode cX8_sure 16 = .ok (.aload_n 0, 1) := by decide +kernel
theorem dX8_sure_17 : decode cX8_sure 17 = .ok (.iload_n 3, 1) := by decide +kernel
theorem dX8_sure_18 : decode cX8_sure 18 = .ok (.iconst 0, 1) := by decide +kernel
theorem dX8_sure_19 : decode cX8_sure 19 = .ok (.bipush 39, 2) := by decide +kernel
theorem dX8_sure_21 : decode cX8_sure 21 = .ok (.invokevirtual 150, 3) := by decide +kernel
theorem dX8_sure_24 : decode cX8_sure 24 = .ok (.ifCond .eq 14, 3) := by decide +kernel
theorem dX8_sure_27 : decode cX8_sure 27 = .ok (.aload_n 0, 1) := by decide +kernel
theorem dX8_sure_28 : decode cX8_sure 28 = .ok (.iload 4, 2) := by decide +kernel
theorem dX8_sure_30 : decode cX8_sure 30 = .ok (.iconst 0, 1) := by decide +kernel
theorem dX8_sure_31 : decode cX8_sure 31 = .ok (.iconst 1, 1) := by decide +kernel
theorem dX8_sure_32 : decode cX8_sure 32 = .ok (.invokevirtual 150, 3) := by decide +kernel
theorem dX8_sure_35 : decode cX8_sure 35 = .ok (.ifCond .ne 7, 3) := by decide +kernel
theorem dX8_sure_38 : decode cX8_sure 38 = .ok (.ldc2_w 287, 3) := by decide +kernel
theorem dX8_sure_41 : decode cX8_sure 41 = .ok (.lreturn, 1) := by decide +kernel
theorem dX8_sure_42 : decode cX8_sure 42 = .ok (.aload_n 0, 1) := by decide +kernel
theorem dX8_sure_43 : decode cX8_sure 43 = .ok (.iload_n 1, 1) := by decide +kernel
theorem dX8_sure_44 : decode cX8_sure 44 = .ok (.iload_n 3, 1) := by decide +kernel
theorem dX8_sure_45 : decode cX8_sure 45 = .ok (.iconst 0, 1) := by decide +kernel
theorem dX8_sure_46 : decode cX8_sure 46 = .ok (.invokevirtual 262, 3) := by decide +kernel
theorem dX8_sure_49 : decode cX8_sure 49 = .ok (.istore 5, 2) := by decide +kernel
theorem dX8_sure_51 : decode cX8_sure 51 = .ok (.iload 5, 2) := by decide +kernel
theorem dX8_sure_53 : decode cX8_sure 53 = .ok (.bipush 15, 2) := by decide +kernel
theorem dX8_sure_55 : decode cX8_sure 55 = .ok (.if_icmp .le 7, 3) := by decide +kernel
theorem dX8_sure_58 : decode cX8_sure 58 = .ok (.ldc2_w 287, 3) := by decide +kernel
theorem dX8_sure_61 : decode cX8_sure 61 = .ok (.lreturn, 1) := by decide +kernel
theorem dX8_sure_62 : decode cX8_sure 62 = .ok (.lconst 1, 1) := by decide +kernel
theorem dX8_sure_63 : decode cX8_sure 63 = .ok (.lstore 6, 2) := by decide +kernel
theorem dX8_sure_65 : decode cX8_sure 65 = .ok (.lconst 1, 1) := by decide +kernel
theorem dX8_sure_66 : decode cX8_sure 66 = .ok (.lstore 8, 2) := by decide +kernel
theorem dX8_sure_68 : decode cX8_sure 68 = .ok (.iconst 0, 1) := by decide +kernel
theorem dX8_sure_69 : decode cX8_sure 69 = .ok (.istore 10, 2) := by decide +kernel
theorem dX8_sure_71 : decode cX8_sure 71 = .ok (.iload 10, 2) := by decide +kernel
theorem dX8_sure_73 : decode cX8_sure 73 = .ok (.iload 5, 2) := by decide +kernel
theorem dX8_sure_75 : decode cX8_sure 75 = .ok (.if_icmp .ge 27, 3) := by decide +kernel
theorem dX8_sure_78 : decode cX8_sure 78 = .ok (.lload 6, 2) := by decide +kernel
theorem dX8_sure_80 : decode cX8_sure 80 = .ok (.aload_n 0, 1) := by decide +kernel
theorem dX8_sure_81 : decode cX8_sure 81 = .ok (.getfield 22, 3) := by decide +kernel
theorem dX8_sure_84 : decode cX8_sure 84 = .ok (.i2l, 1) := by decide +kernel
theorem dX8_sure_85 : decode cX8_sure 85 = .ok (.lmul, 1) := by decide +kernel
theorem dX8_sure_86 : decode cX8_sure 86 = .ok (.lstore 6, 2) := by decide +kernel
theorem dX8_sure_88 : decode cX8_sure 88 = .ok (.lload 8, 2) := by decide +kernel
theorem dX8_sure_90 : decode cX8_sure 90 = .ok (.ldc2_w 289, 3) := by decide +kernel
theorem dX8_sure_93 : decode cX8_sure 93 = .ok (.lmul, 1) := by decide +kernel
theorem dX8_sure_94 : decode cX8_sure 94 = .ok (.lstore 8, 2) := by decide +kernel
theorem dX8_sure_96 : decode cX8_sure 96 = .ok (.iinc 10 1, 3) := by decide +kernel
theorem dX8_sure_99 : decode cX8_sure 99 = .ok (.goto (-28), 3) := by decide +kernel
theorem dX8_sure_102 : decode cX8_sure 102 = .ok (.aload_n 0, 1) := by decide +kernel
theorem dX8_sure_103 : decode cX8_sure 103 = .ok (.iload_n 1, 1) := by decide +kernel
theorem dX8_sure_104 : decode cX8_sure 104 = .ok (.iload_n 2, 1) := by decide +kernel
theorem dX8_sure_105 : decode cX8_sure 105 = .ok (.iload_n 3, 1) := by decide +kernel
theorem dX8_sure_106 : decode cX8_sure 106 = .ok (.aload_n 0, 1) := by decide +kernel
theorem dX8_sure_107 : decode cX8_sure 107 = .ok (.getfield 13, 3) := by decide +kernel
theorem dX8_sure_110 : decode cX8_sure 110 = .ok (.invokevirtual 259, 3) := by decide +kernel
theorem dX8_sure_113 : decode cX8_sure 113 = .ok (.ifCond .eq 11, 3) := by decide +kernel
theorem dX8_sure_116 : decode cX8_sure 116 = .ok (.lload 8, 2) := by decide +kernel
theorem dX8_sure_118 : decode cX8_sure 118 = .ok (.lload 6, 2) := by decide +kernel
theorem dX8_sure_120 : decode cX8_sure 120 = .ok (.lsub, 1) := by decide +kernel
theorem dX8_sure_121 : decode cX8_sure 121 = .ok (.goto 4, 3) := by decide +kernel
theorem dX8_sure_124 : decode cX8_sure 124 = .ok (.lconst 0, 1) := by decide +kernel
theorem dX8_sure_125 : decode cX8_sure 125 = .ok (.lstore 10, 2) := by decide +kernel
theorem dX8_sure_127 : decode cX8_sure 127 = .ok (.aload_n 0, 1) := by decide +kernel
theorem dX8_sure_128 : decode cX8_sure 128 = .ok (.lload 10, 2) := by decide +kernel
theorem dX8_sure_130 : decode cX8_sure 130 = .ok (.lload 8, 2) := by decide +kernel
theorem dX8_sure_132 : decode cX8_sure 132 = .ok (.invokevirtual 291, 3) := by decide +kernel
theorem dX8_sure_135 : decode cX8_sure 135 = .ok (.lstore 12, 2) := by decide +kernel
theorem dX8_sure_137 : decode cX8_sure 137 = .ok (.iload 4, 2) := by decide +kernel
theorem dX8_sure_139 : decode cX8_sure 139 = .ok (.ifCond .ne 11, 3) := by decide +kernel
theorem dX8_sure_142 : decode cX8_sure 142 = .ok (.lload 10, 2) := by decide +kernel
theorem dX8_sure_144 : decode cX8_sure 144 = .ok (.lload 12, 2) := by decide +kernel
theorem dX8_sure_146 : decode cX8_sure 146 = .ok (.ldiv, 1) := by decide +kernel
theorem dX8_sure_147 : decode cX8_sure 147 = .ok (.goto 8, 3) := by decide +kernel
theorem dX8_sure_150 : decode cX8_sure 150 = .ok (.lload 8, 2) := by decide +kernel
theorem dX8_sure_152 : decode cX8_sure 152 = .ok (.lload 12, 2) := by decide +kernel
theorem dX8_sure_154 : decode cX8_sure 154 = .ok (.ldiv, 1) := by decide +kernel
theorem dX8_sure_155 : decode cX8_sure 155 = .ok (.lreturn, 1) := by decide +kernel
theorem dX8_changes_0 : decode cX8_changes 0 = .ok (.aload_n 0, 1) := by decide +kernel
theorem dX8_changes_1 : decode cX8_changes 1 = .ok (.iload_n 1, 1) := by decide +kernel
theorem dX8_changes_2 : decode cX8_changes 2 = .ok (.invokevirtual 272, 3) := by decide +kernel
theorem dX8_changes_5 : decode cX8_changes 5 = .ok (.ifCond .eq 19, 3) := by decide +kernel
theorem dX8_changes_8 : decode cX8_changes 8 = .ok (.aload_n 0, 1) := by decide +kernel
theorem dX8_changes_9 : decode cX8_changes 9 = .ok (.iload_n 2, 1) := by decide +kernel
theorem dX8_changes_10 : decode cX8_changes 10 = .ok (.invokevirtual 272, 3) := by decide +kernel
theorem dX8_changes_13 : decode cX8_changes 13 = .ok (.ifCond .eq 11, 3) := by decide +kernel
theorem dX8_changes_16 : decode cX8_changes 16 = .ok (.aload_n 0, 1) := by decide +kernel
theorem dX8_changes_17 : decode cX8_changes 17 = .ok (.iload_n 3, 1) := by decide +kernel
theorem dX8_changes_18 : decode cX8_changes 18 = .ok (.invokevirtual 160, 3) := by decide +kernel
theorem dX8_changes_21 : decode cX8_changes 21 = .ok (.ifCond .ne 5, 3) := by decide +kernel
theorem dX8_changes_24 : decode cX8_changes 24 = .ok (.iconst (-1), 1) := by decide +kernel
theorem dX8_changes_25 : decode cX8_changes 25 = .ok (.ireturn, 1) := by decide +kernel
theorem dX8_changes_26 : decode cX8_changes 26 = .ok (.aload_n 0, 1) := by decide +kernel
theorem dX8_changes_27 : decode cX8_changes 27 = .ok (.iload 4, 2) := by decide +kernel
theorem dX8_changes_29 : decode cX8_changes 29 = .ok (.iconst 0, 1) := by decide +kernel
theorem dX8_changes_30 : decode cX8_changes 30 = .ok (.bipush 40, 2) := by decide +kernel
theorem dX8_changes_32 : decode cX8_changes 32 = .ok (.invokevirtual 150, 3) := by decide +kernel
theorem dX8_changes_35 : decode cX8_changes 35 = .ok (.ifCond .ne 6, 3) := by decide +kernel
theorem dX8_changes_38 : decode cX8_changes 38 = .ok (.bipush (-2), 2) := by decide +kernel
theorem dX8_changes_40 : decode cX8_changes 40 = .ok (.ireturn, 1) := by decide +kernel
theorem dX8_changes_41 : decode cX8_changes 41 = .ok (.iconst 0, 1) := by decide +kernel
theorem dX8_changes_42 : decode cX8_changes 42 = .ok (.istore 5, 2) := by decide +kernel
theorem dX8_changes_44 : decode cX8_changes 44 = .ok (.iconst 1, 1) := by decide +kernel
theorem dX8_changes_45 : decode cX8_changes 45 = .ok (.istore 6, 2) := by decide +kernel
theorem dX8_changes_47 : decode cX8_changes 47 = .ok (.iload 6, 2) := by decide +kernel
theorem dX8_changes_49 : decode cX8_changes 49 = .ok (.aload_n 0, 1) := by decide +kernel
theorem dX8_changes_50 : decode cX8_changes 50 = .ok (.getfield 19, 3) := by decide +kernel
theorem dX8_changes_53 : decode cX8_changes 53 = .ok (.if_icmp .ge 82, 3) := by decide +kernel
theorem dX8_changes_56 : decode cX8_changes 56 = .ok (.aload_n 0, 1) := by decide +kernel
theorem dX8_changes_57 : decode cX8_changes 57 = .ok (.iload 6, 2) := by decide +kernel
theorem dX8_changes_59 : decode cX8_changes 59 = .ok (.iconst 2, 1) := by decide +kernel
theorem dX8_changes_60 : decode cX8_changes 60 = .ok (.irem, 1) := by decide +kernel
theorem dX8_changes_61 : decode cX8_changes 61 = .ok (.iconst 1, 1) := by decide +kernel
theorem dX8_changes_62 : decode cX8_changes 62 = .ok (.if_icmp .ne 7, 3) := by decide +kernel
theorem dX8_changes_65 : decode cX8_changes 65 = .ok (.iload_n 1, 1) := by decide +kernel
theorem dX8_changes_66 : decode cX8_changes 66 = .ok (.goto 4, 3) := by decide +kernel
theorem dX8_changes_69 : decode cX8_changes 69 = .ok (.iload_n 2, 1) := by decide +kernel
theorem dX8_changes_70 : decode cX8_changes 70 = .ok (.iload_n 3, 1) := by decide +kernel
theorem dX8_changes_71 : decode cX8_changes 71 = .ok (.iconst 2, 1) := by decide +kernel
theorem dX8_changes_72 : decode cX8_changes 72 = .ok (.iload 6, 2) := by decide +kernel
theorem dX8_changes_74 : decode cX8_changes 74 = .ok (.imul, 1) := by decide +kernel
theorem dX8_changes_75 : decode cX8_changes 75 = .ok (.iconst 2, 1) := by decide +kernel
theorem dX8_changes_76 : decode cX8_changes 76 = .ok (.isub, 1) := by decide +kernel
theorem dX8_changes_77 : decode cX8_changes 77 = .ok (.invokevirtual 269, 3) := by decide +kernel
theorem dX8_changes_80 : decode cX8_changes 80 = .ok (.istore 7, 2) := by decide +kernel
theorem dX8_changes_82 : decode cX8_changes 82 = .ok (.aload_n 0, 1) := by decide +kernel
theorem dX8_changes_83 : decode cX8_changes 83 = .ok (.iload 6, 2) := by decide +kernel
theorem dX8_changes_85 : decode cX8_changes 85 = .ok (.iconst 2, 1) := by decide +kernel
theorem dX8_changes_86 : decode cX8_changes 86 = .ok (.irem, 1) := by decide +kernel
theorem dX8_changes_87 : decode cX8_changes 87 = .ok (.iconst 1, 1) := by decide +kernel
theorem dX8_changes_88 : decode cX8_changes 88 = .ok (.if_icmp .ne 7, 3) := by decide +kernel
theorem dX8_changes_91 : decode cX8_changes 91 = .ok (.iload_n 2, 1) := by decide +kernel
theorem dX8_changes_92 : decode cX8_changes 92 = .ok (.goto 4, 3) := by decide +kernel
theorem dX8_changes_95 : decode cX8_changes 95 = .ok (.iload_n 1, 1) := by decide +kernel
theorem dX8_changes_96 : decode cX8_changes 96 = .ok (.iload_n 3, 1) := by decide +kernel
theorem dX8_changes_97 : decode cX8_changes 97 = .ok (.iconst 2, 1) := by decide +kernel
theorem dX8_changes_98 : decode cX8_changes 98 = .ok (.iload 6, 2) := by decide +kernel
theorem dX8_changes_100 : decode cX8_changes 100 = .ok (.imul, 1) := by decide +kernel
theorem dX8_changes_101 : decode cX8_changes 101 = .ok (.invokevirtual 269, 3) := by decide +kernel
theorem dX8_changes_104 : decode cX8_changes 104 = .ok (.istore 8, 2) := by decide +kernel
theorem dX8_changes_106 : decode cX8_changes 106 = .ok (.iload 5, 2) := by decide +kernel
theorem dX8_changes_108 : decode cX8_changes 108 = .ok (.aload_n 0, 1) := by decide +kernel
theorem dX8_changes_109 : decode cX8_changes 109 = .ok (.iload 7, 2) := by decide +kernel
theorem dX8_changes_111 : decode cX8_changes 111 = .ok (.iload 8, 2) := by decide +kernel
theorem dX8_changes_113 : decode cX8_changes 113 = .ok (.invokevirtual 233, 3) := by decide +kernel
theorem dX8_changes_116 : decode cX8_changes 116 = .ok (.iload 4, 2) := by decide +kernel
theorem dX8_changes_118 : decode cX8_changes 118 = .ok (.if_icmp .le 7, 3) := by decide +kernel
theorem dX8_changes_121 : decode cX8_changes 121 = .ok (.iconst 1, 1) := by decide +kernel
theorem dX8_changes_122 : decode cX8_changes 122 = .ok (.goto 4, 3) := by decide +kernel
theorem dX8_changes_125 : decode cX8_changes 125 = .ok (.iconst 0, 1) := by decide +kernel
theorem dX8_changes_126 : decode cX8_changes 126 = .ok (.iadd, 1) := by decide +kernel
theorem dX8_changes_127 : decode cX8_changes 127 = .ok (.istore 5, 2) := by decide +kernel
theorem dX8_changes_129 : decode cX8_changes 129 = .ok (.iinc 6 1, 3) := by decide +kernel
theorem dX8_changes_132 : decode cX8_changes 132 = .ok (.goto (-85), 3) := by decide +kernel
theorem dX8_changes_135 : decode cX8_changes 135 = .ok (.iload 5, 2) := by decide +kernel
theorem dX8_changes_137 : decode cX8_changes 137 = .ok (.ireturn, 1) := by decide +kernel
theorem dX8_judge_0 : decode cX8_judge 0 = .ok (.aload_n 0, 1) := by decide +kernel
theorem dX8_judge_1 : decode cX8_judge 1 = .ok (.iload_n 1, 1) := by decide +kernel
theorem dX8_judge_2 : decode cX8_judge 2 = .ok (.invokevirtual 295, 3) := by decide +kernel
theorem dX8_judge_5 : decode cX8_judge 5 = .ok (.ifCond .eq 20, 3) := by decide +kernel
theorem dX8_judge_8 : decode cX8_judge 8 = .ok (.aload_n 0, 1) := by decide +kernel
theorem dX8_judge_9 : decode cX8_judge 9 = .ok (.iload_n 3, 1) := by decide +kernel
theorem dX8_judge_10 : decode cX8_judge 10 = .ok (.invokevirtual 272, 3) := by decide +kernel
theorem dX8_judge_13 : decode cX8_judge 13 = .ok (.ifCond .eq 12, 3) := by decide +kernel
theorem dX8_judge_16 : decode cX8_judge 16 = .ok (.aload_n 0, 1) := by decide +kernel
theorem dX8_judge_17 : decode cX8_judge 17 = .ok (.iload 4, 2) := by decide +kernel
theorem dX8_judge_19 : decode cX8_judge 19 = .ok (.invokevirtual 160, 3) := by decide +kernel
theorem dX8_judge_22 : decode cX8_judge 22 = .ok (.ifCond .ne 5, 3) := by decide +kernel
theorem dX8_judge_25 : decode cX8_judge 25 = .ok (.iconst (-1), 1) := by decide +kernel
theorem dX8_judge_26 : decode cX8_judge 26 = .ok (.ireturn, 1) := by decide +kernel
theorem dX8_judge_27 : decode cX8_judge 27 = .ok (.aload_n 0, 1) := by decide +kernel
theorem dX8_judge_28 : decode cX8_judge 28 = .ok (.getfield 137, 3) := by decide +kernel
theorem dX8_judge_31 : decode cX8_judge 31 = .ok (.iload_n 1, 1) := by decide +kernel
theorem dX8_judge_32 : decode cX8_judge 32 = .ok (.iaload, 1) := by decide +kernel
theorem dX8_judge_33 : decode cX8_judge 33 = .ok (.ifCond .lt 16, 3) := by decide +kernel
theorem dX8_judge_36 : decode cX8_judge 36 = .ok (.aload_n 0, 1) := by decide +kernel
theorem dX8_judge_37 : decode cX8_judge 37 = .ok (.getfield 137, 3) := by decide +kernel
theorem dX8_judge_40 : decode cX8_judge 40 = .ok (.iload_n 1, 1) := by decide +kernel
theorem dX8_judge_41 : decode cX8_judge 41 = .ok (.iaload, 1) := by decide +kernel
theorem dX8_judge_42 : decode cX8_judge 42 = .ok (.iconst 1, 1) := by decide +kernel
theorem dX8_judge_43 : decode cX8_judge 43 = .ok (.if_icmp .eq 6, 3) := by decide +kernel
theorem dX8_judge_46 : decode cX8_judge 46 = .ok (.bipush (-12), 2) := by decide +kernel
theorem dX8_judge_48 : decode cX8_judge 48 = .ok (.ireturn, 1) := by decide +kernel
theorem dX8_judge_49 : decode cX8_judge 49 = .ok (.iconst 0, 1) := by decide +kernel
theorem dX8_judge_50 : decode cX8_judge 50 = .ok (.istore 5, 2) := by decide +kernel
theorem dX8_judge_52 : decode cX8_judge 52 = .ok (.iload 5, 2) := by decide +kernel
theorem dX8_judge_54 : decode cX8_judge 54 = .ok (.iconst 2, 1) := by decide +kernel
theorem dX8_judge_55 : decode cX8_judge 55 = .ok (.aload_n 0, 1) := by decide +kernel
theorem dX8_judge_56 : decode cX8_judge 56 = .ok (.getfield 19, 3) := by decide +kernel
theorem dX8_judge_59 : decode cX8_judge 59 = .ok (.imul, 1) := by decide +kernel
theorem dX8_judge_60 : decode cX8_judge 60 = .ok (.if_icmp .ge 74, 3) := by decide +kernel
theorem dX8_judge_63 : decode cX8_judge 63 = .ok (.aload_n 0, 1) := by decide +kernel
theorem dX8_judge_64 : decode cX8_judge 64 = .ok (.getfield 137, 3) := by decide +kernel
theorem dX8_judge_67 : decode cX8_judge 67 = .ok (.iload_n 1, 1) := by decide +kernel
theorem dX8_judge_68 : decode cX8_judge 68 = .ok (.iaload, 1) := by decide +kernel
theorem dX8_judge_69 : decode cX8_judge 69 = .ok (.ifCond .lt 22, 3) := by decide +kernel
theorem dX8_judge_72 : decode cX8_judge 72 = .ok (.iload_n 2, 1) := by decide +kernel
theorem dX8_judge_73 : decode cX8_judge 73 = .ok (.ifCond .lt 18, 3) := by decide +kernel
theorem dX8_judge_76 : decode cX8_judge 76 = .ok (.iload_n 2, 1) := by decide +kernel
theorem dX8_judge_77 : decode cX8_judge 77 = .ok (.aload_n 0, 1) := by decide +kernel
theorem dX8_judge_78 : decode cX8_judge 78 = .ok (.getfield 140, 3) := by decide +kernel
theorem dX8_judge_81 : decode cX8_judge 81 = .ok (.iload_n 1, 1) := by decide +kernel
theorem dX8_judge_82 : decode cX8_judge 82 = .ok (.iaload, 1) := by decide +kernel
theorem dX8_judge_83 : decode cX8_judge 83 = .ok (.iload 5, 2) := by decide +kernel
theorem dX8_judge_85 : decode cX8_judge 85 = .ok (.isub, 1) := by decide +kernel
theorem dX8_judge_86 : decode cX8_judge 86 = .ok (.iconst 1, 1) := by decide +kernel
theorem dX8_judge_87 : decode cX8_judge 87 = .ok (.isub, 1) := by decide +kernel
theorem dX8_judge_88 : decode cX8_judge 88 = .ok (.if_icmp .le 9, 3) := by decide +kernel
theorem dX8_judge_91 : decode cX8_judge 91 = .ok (.bipush 100, 2) := by decide +kernel
theorem dX8_judge_93 : decode cX8_judge 93 = .ok (.iload 5, 2) := by decide +kernel
theorem dX8_judge_95 : decode cX8_judge 95 = .ok (.iadd, 1) := by decide +kernel
theorem dX8_judge_96 : decode cX8_judge 96 = .ok (.ireturn, 1) := by decide +kernel
theorem dX8_judge_97 : decode cX8_judge 97 = .ok (.aload_n 0, 1) := by decide +kernel
theorem dX8_judge_98 : decode cX8_judge 98 = .ok (.getfield 143, 3) := by decide +kernel
theorem dX8_judge_101 : decode cX8_judge 101 = .ok (.bipush 60, 2) := by decide +kernel
theorem dX8_judge_103 : decode cX8_judge 103 = .ok (.iload_n 1, 1) := by decide +kernel
theorem dX8_judge_104 : decode cX8_judge 104 = .ok (.imul, 1) := by decide +kernel
theorem dX8_judge_105 : decode cX8_judge 105 = .ok (.iload_n 2, 1) := by decide +kernel
theorem dX8_judge_106 : decode cX8_judge 106 = .ok (.iadd, 1) := by decide +kernel
theorem dX8_judge_107 : decode cX8_judge 107 = .ok (.iload 5, 2) := by decide +kernel
theorem dX8_judge_109 : decode cX8_judge 109 = .ok (.iadd, 1) := by decide +kernel
theorem dX8_judge_110 : decode cX8_judge 110 = .ok (.laload, 1) := by decide +kernel
theorem dX8_judge_111 : decode cX8_judge 111 = .ok (.aload_n 0, 1) := by decide +kernel
theorem dX8_judge_112 : decode cX8_judge 112 = .ok (.iload_n 3, 1) := by decide +kernel
theorem dX8_judge_113 : decode cX8_judge 113 = .ok (.iload 4, 2) := by decide +kernel
theorem dX8_judge_115 : decode cX8_judge 115 = .ok (.iload 5, 2) := by decide +kernel
theorem dX8_judge_117 : decode cX8_judge 117 = .ok (.invokevirtual 269, 3) := by decide +kernel
theorem dX8_judge_120 : decode cX8_judge 120 = .ok (.i2l, 1) := by decide +kernel
theorem dX8_judge_121 : decode cX8_judge 121 = .ok (.lcmp, 1) := by decide +kernel
theorem dX8_judge_122 : decode cX8_judge 122 = .ok (.ifCond .eq 6, 3) := by decide +kernel
theorem dX8_judge_125 : decode cX8_judge 125 = .ok (.iload 5, 2) := by decide +kernel
theorem dX8_judge_127 : decode cX8_judge 127 = .ok (.ireturn, 1) := by decide +kernel
theorem dX8_judge_128 : decode cX8_judge 128 = .ok (.iinc 5 1, 3) := by decide +kernel
theorem dX8_judge_131 : decode cX8_judge 131 = .ok (.goto (-79), 3) := by decide +kernel
theorem dX8_judge_134 : decode cX8_judge 134 = .ok (.bipush (-5), 2) := by decide +kernel
theorem dX8_judge_136 : decode cX8_judge 136 = .ok (.ireturn, 1) := by decide +kernel
theorem dX8_image_0 : decode cX8_image 0 = .ok (.aload_n 0, 1) := by decide +kernel
theorem dX8_image_1 : decode cX8_image 1 = .ok (.iconst 1, 1) := by decide +kernel
theorem dX8_image_2 : decode cX8_image 2 = .ok (.putfield 106, 3) := by decide +kernel
theorem dX8_image_5 : decode cX8_image 5 = .ok (.aload_n 0, 1) := by decide +kernel
theorem dX8_image_6 : decode cX8_image 6 = .ok (.aload_n 0, 1) := by decide +kernel
theorem dX8_image_7 : decode cX8_image 7 = .ok (.getfield 42, 3) := by decide +kernel
theorem dX8_image_10 : decode cX8_image 10 = .ok (.putfield 110, 3) := by decide +kernel
theorem dX8_image_13 : decode cX8_image 13 = .ok (.aload_n 0, 1) := by decide +kernel
theorem dX8_image_14 : decode cX8_image 14 = .ok (.aload_n 0, 1) := by decide +kernel
theorem dX8_image_15 : decode cX8_image 15 = .ok (.getfield 7, 3) := by decide +kernel
theorem dX8_image_18 : decode cX8_image 18 = .ok (.putfield 113, 3) := by decide +kernel
theorem dX8_image_21 : decode cX8_image 21 = .ok (.aload_n 0, 1) := by decide +kernel
theorem dX8_image_22 : decode cX8_image 22 = .ok (.aload_n 0, 1) := by decide +kernel
theorem dX8_image_23 : decode cX8_image 23 = .ok (.getfield 13, 3) := by decide +kernel
theorem dX8_image_26 : decode cX8_image 26 = .ok (.putfield 116, 3) := by decide +kernel
theorem dX8_image_29 : decode cX8_image 29 = .ok (.aload_n 0, 1) := by decide +kernel
theorem dX8_image_30 : decode cX8_image 30 = .ok (.aload_n 0, 1) := by decide +kernel
theorem dX8_image_31 : decode cX8_image 31 = .ok (.getfield 25, 3) := by decide +kernel
theorem dX8_image_34 : decode cX8_image 34 = .ok (.putfield 125, 3) := by decide +kernel
theorem dX8_image_37 : decode cX8_image 37 = .ok (.aload_n 0, 1) := by decide +kernel
theorem dX8_image_38 : decode cX8_image 38 = .ok (.aload_n 0, 1) := by decide +kernel
theorem dX8_image_39 : decode cX8_image 39 = .ok (.getfield 19, 3) := by decide +kernel
theorem dX8_image_42 : decode cX8_image 42 = .ok (.putfield 119, 3) := by decide +kernel
theorem dX8_image_45 : decode cX8_image 45 = .ok (.aload_n 0, 1) := by decide +kernel
theorem dX8_image_46 : decode cX8_image 46 = .ok (.aload_n 0, 1) := by decide +kernel
theorem dX8_image_47 : decode cX8_image 47 = .ok (.getfield 22, 3) := by decide +kernel
theorem dX8_image_50 : decode cX8_image 50 = .ok (.putfield 122, 3) := by decide +kernel
theorem dX8_image_53 : decode cX8_image 53 = .ok (.iconst 0, 1) := by decide +kernel
theorem dX8_image_54 : decode cX8_image 54 = .ok (.istore_n 1, 1) := by decide +kernel
theorem dX8_image_55 : decode cX8_image 55 = .ok (.iload_n 1, 1) := by decide +kernel
theorem dX8_image_56 : decode cX8_image 56 = .ok (.bipush 20, 2) := by decide +kernel
theorem dX8_image_58 : decode cX8_image 58 = .ok (.if_icmp .ge 21, 3) := by decide +kernel
theorem dX8_image_61 : decode cX8_image 61 = .ok (.aload_n 0, 1) := by decide +kernel
theorem dX8_image_62 : decode cX8_image 62 = .ok (.getfield 128, 3) := by decide +kernel
theorem dX8_image_65 : decode cX8_image 65 = .ok (.iload_n 1, 1) := by decide +kernel
theorem dX8_image_66 : decode cX8_image 66 = .ok (.aload_n 0, 1) := by decide +kernel
theorem dX8_image_67 : decode cX8_image 67 = .ok (.getfield 36, 3) := by decide +kernel
theorem dX8_image_70 : decode cX8_image 70 = .ok (.iload_n 1, 1) := by decide +kernel
theorem dX8_image_71 : decode cX8_image 71 = .ok (.iaload, 1) := by decide +kernel
theorem dX8_image_72 : decode cX8_image 72 = .ok (.iastore, 1) := by decide +kernel
theorem dX8_image_73 : decode cX8_image 73 = .ok (.iinc 1 1, 3) := by decide +kernel
theorem dX8_image_76 : decode cX8_image 76 = .ok (.goto (-21), 3) := by decide +kernel
theorem dX8_image_79 : decode cX8_image 79 = .ok (.aload_n 0, 1) := by decide +kernel
