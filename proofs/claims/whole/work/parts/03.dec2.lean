theorem dX5_walkChanges_145 : decode cX5_walkChanges 145 = .ok (.getfield 31, 3) := by decide +kernel
theorem dX5_walkChanges_148 : decode cX5_walkChanges 148 = .ok (.iload 5, 2) := by decide +kernel
theorem dX5_walkChanges_150 : decode cX5_walkChanges 150 = .ok (.iload 7, 2) := by decide +kernel
theorem dX5_walkChanges_152 : decode cX5_walkChanges 152 = .ok (.iastore, 1) := by decide +kernel
theorem dX5_walkChanges_153 : decode cX5_walkChanges 153 = .ok (.aload_n 0, 1) := by decide +kernel
theorem dX5_walkChanges_154 : decode cX5_walkChanges 154 = .ok (.getfield 31, 3) := by decide +kernel
theorem dX5_walkChanges_157 : decode cX5_walkChanges 157 = .ok (.iload 5, 2) := by decide +kernel
theorem dX5_walkChanges_159 : decode cX5_walkChanges 159 = .ok (.iconst 1, 1) := by decide +kernel
theorem dX5_walkChanges_160 : decode cX5_walkChanges 160 = .ok (.iadd, 1) := by decide +kernel
theorem dX5_walkChanges_161 : decode cX5_walkChanges 161 = .ok (.iload 6, 2) := by decide +kernel
theorem dX5_walkChanges_163 : decode cX5_walkChanges 163 = .ok (.iastore, 1) := by decide +kernel
theorem dX5_walkChanges_164 : decode cX5_walkChanges 164 = .ok (.aload_n 0, 1) := by decide +kernel
theorem dX5_walkChanges_165 : decode cX5_walkChanges 165 = .ok (.getfield 34, 3) := by decide +kernel
theorem dX5_walkChanges_168 : decode cX5_walkChanges 168 = .ok (.iload 6, 2) := by decide +kernel
theorem dX5_walkChanges_170 : decode cX5_walkChanges 170 = .ok (.iconst 1, 1) := by decide +kernel
theorem dX5_walkChanges_171 : decode cX5_walkChanges 171 = .ok (.iastore, 1) := by decide +kernel
theorem dX5_walkChanges_172 : decode cX5_walkChanges 172 = .ok (.aload_n 0, 1) := by decide +kernel
theorem dX5_walkChanges_173 : decode cX5_walkChanges 173 = .ok (.getfield 34, 3) := by decide +kernel
theorem dX5_walkChanges_176 : decode cX5_walkChanges 176 = .ok (.iload 7, 2) := by decide +kernel
theorem dX5_walkChanges_178 : decode cX5_walkChanges 178 = .ok (.iconst (-1), 1) := by decide +kernel
theorem dX5_walkChanges_179 : decode cX5_walkChanges 179 = .ok (.iastore, 1) := by decide +kernel
theorem dX5_walkChanges_180 : decode cX5_walkChanges 180 = .ok (.iinc 5 1, 3) := by decide +kernel
theorem dX5_walkChanges_183 : decode cX5_walkChanges 183 = .ok (.goto (-78), 3) := by decide +kernel
theorem dX5_walkChanges_186 : decode cX5_walkChanges 186 = .ok (.iconst 0, 1) := by decide +kernel
theorem dX5_walkChanges_187 : decode cX5_walkChanges 187 = .ok (.istore 5, 2) := by decide +kernel
theorem dX5_walkChanges_189 : decode cX5_walkChanges 189 = .ok (.iload 5, 2) := by decide +kernel
theorem dX5_walkChanges_191 : decode cX5_walkChanges 191 = .ok (.bipush 6, 2) := by decide +kernel
theorem dX5_walkChanges_193 : decode cX5_walkChanges 193 = .ok (.if_icmp .ge 54, 3) := by decide +kernel
theorem dX5_walkChanges_196 : decode cX5_walkChanges 196 = .ok (.aload_n 0, 1) := by decide +kernel
theorem dX5_walkChanges_197 : decode cX5_walkChanges 197 = .ok (.getfield 34, 3) := by decide +kernel
theorem dX5_walkChanges_200 : decode cX5_walkChanges 200 = .ok (.iload 5, 2) := by decide +kernel
theorem dX5_walkChanges_202 : decode cX5_walkChanges 202 = .ok (.iaload, 1) := by decide +kernel
theorem dX5_walkChanges_203 : decode cX5_walkChanges 203 = .ok (.aload_n 0, 1) := by decide +kernel
theorem dX5_walkChanges_204 : decode cX5_walkChanges 204 = .ok (.getfield 37, 3) := by decide +kernel
theorem dX5_walkChanges_207 : decode cX5_walkChanges 207 = .ok (.iload 5, 2) := by decide +kernel
theorem dX5_walkChanges_209 : decode cX5_walkChanges 209 = .ok (.iaload, 1) := by decide +kernel
theorem dX5_walkChanges_210 : decode cX5_walkChanges 210 = .ok (.imul, 1) := by decide +kernel
theorem dX5_walkChanges_211 : decode cX5_walkChanges 211 = .ok (.ifCond .ge 16, 3) := by decide +kernel
theorem dX5_walkChanges_214 : decode cX5_walkChanges 214 = .ok (.aload_n 0, 1) := by decide +kernel
theorem dX5_walkChanges_215 : decode cX5_walkChanges 215 = .ok (.getfield 28, 3) := by decide +kernel
theorem dX5_walkChanges_218 : decode cX5_walkChanges 218 = .ok (.iload_n 3, 1) := by decide +kernel
theorem dX5_walkChanges_219 : decode cX5_walkChanges 219 = .ok (.dup2, 1) := by decide +kernel
theorem dX5_walkChanges_220 : decode cX5_walkChanges 220 = .ok (.iaload, 1) := by decide +kernel
theorem dX5_walkChanges_221 : decode cX5_walkChanges 221 = .ok (.iconst 1, 1) := by decide +kernel
theorem dX5_walkChanges_222 : decode cX5_walkChanges 222 = .ok (.iload 5, 2) := by decide +kernel
theorem dX5_walkChanges_224 : decode cX5_walkChanges 224 = .ok (.ishl, 1) := by decide +kernel
theorem dX5_walkChanges_225 : decode cX5_walkChanges 225 = .ok (.ior, 1) := by decide +kernel
theorem dX5_walkChanges_226 : decode cX5_walkChanges 226 = .ok (.iastore, 1) := by decide +kernel
theorem dX5_walkChanges_227 : decode cX5_walkChanges 227 = .ok (.aload_n 0, 1) := by decide +kernel
theorem dX5_walkChanges_228 : decode cX5_walkChanges 228 = .ok (.getfield 37, 3) := by decide +kernel
theorem dX5_walkChanges_231 : decode cX5_walkChanges 231 = .ok (.iload 5, 2) := by decide +kernel
theorem dX5_walkChanges_233 : decode cX5_walkChanges 233 = .ok (.aload_n 0, 1) := by decide +kernel
theorem dX5_walkChanges_234 : decode cX5_walkChanges 234 = .ok (.getfield 34, 3) := by decide +kernel
theorem dX5_walkChanges_237 : decode cX5_walkChanges 237 = .ok (.iload 5, 2) := by decide +kernel
theorem dX5_walkChanges_239 : decode cX5_walkChanges 239 = .ok (.iaload, 1) := by decide +kernel
theorem dX5_walkChanges_240 : decode cX5_walkChanges 240 = .ok (.iastore, 1) := by decide +kernel
theorem dX5_walkChanges_241 : decode cX5_walkChanges 241 = .ok (.iinc 5 1, 3) := by decide +kernel
theorem dX5_walkChanges_244 : decode cX5_walkChanges 244 = .ok (.goto (-55), 3) := by decide +kernel
theorem dX5_walkChanges_247 : decode cX5_walkChanges 247 = .ok (.aload_n 0, 1) := by decide +kernel
theorem dX5_walkChanges_248 : decode cX5_walkChanges 248 = .ok (.getfield 25, 3) := by decide +kernel
theorem dX5_walkChanges_251 : decode cX5_walkChanges 251 = .ok (.iload_n 3, 1) := by decide +kernel
theorem dX5_walkChanges_252 : decode cX5_walkChanges 252 = .ok (.aload_n 0, 1) := by decide +kernel
theorem dX5_walkChanges_253 : decode cX5_walkChanges 253 = .ok (.invokevirtual 69, 3) := by decide +kernel
theorem dX5_walkChanges_256 : decode cX5_walkChanges 256 = .ok (.iastore, 1) := by decide +kernel
theorem dX5_walkChanges_257 : decode cX5_walkChanges 257 = .ok (.iinc 3 1, 3) := by decide +kernel
theorem dX5_walkChanges_260 : decode cX5_walkChanges 260 = .ok (.goto (-216), 3) := by decide +kernel
theorem dX5_walkChanges_263 : decode cX5_walkChanges 263 = .ok (.return_, 1) := by decide +kernel
theorem dX5_walk_0 : decode cX5_walk 0 = .ok (.aload_n 0, 1) := by decide +kernel
theorem dX5_walk_1 : decode cX5_walk 1 = .ok (.iload_n 1, 1) := by decide +kernel
theorem dX5_walk_2 : decode cX5_walk 2 = .ok (.iload_n 2, 1) := by decide +kernel
theorem dX5_walk_3 : decode cX5_walk 3 = .ok (.aload_n 0, 1) := by decide +kernel
theorem dX5_walk_4 : decode cX5_walk 4 = .ok (.getfield 19, 3) := by decide +kernel
theorem dX5_walk_7 : decode cX5_walk 7 = .ok (.iload_n 1, 1) := by decide +kernel
theorem dX5_walk_8 : decode cX5_walk 8 = .ok (.iaload, 1) := by decide +kernel
theorem dX5_walk_9 : decode cX5_walk 9 = .ok (.imul, 1) := by decide +kernel
theorem dX5_walk_10 : decode cX5_walk 10 = .ok (.invokevirtual 73, 3) := by decide +kernel
theorem dX5_walk_13 : decode cX5_walk 13 = .ok (.return_, 1) := by decide +kernel
theorem dX5_untrue_0 : decode cX5_untrue 0 = .ok (.iconst 0, 1) := by decide +kernel
theorem dX5_untrue_1 : decode cX5_untrue 1 = .ok (.istore_n 1, 1) := by decide +kernel
theorem dX5_untrue_2 : decode cX5_untrue 2 = .ok (.iconst 1, 1) := by decide +kernel
theorem dX5_untrue_3 : decode cX5_untrue 3 = .ok (.istore_n 2, 1) := by decide +kernel
theorem dX5_untrue_4 : decode cX5_untrue 4 = .ok (.iload_n 2, 1) := by decide +kernel
theorem dX5_untrue_5 : decode cX5_untrue 5 = .ok (.aload_n 0, 1) := by decide +kernel
theorem dX5_untrue_6 : decode cX5_untrue 6 = .ok (.getfield 66, 3) := by decide +kernel
theorem dX5_untrue_9 : decode cX5_untrue 9 = .ok (.if_icmp .gt 45, 3) := by decide +kernel
theorem dX5_untrue_12 : decode cX5_untrue 12 = .ok (.iload_n 1, 1) := by decide +kernel
theorem dX5_untrue_13 : decode cX5_untrue 13 = .ok (.aload_n 0, 1) := by decide +kernel
theorem dX5_untrue_14 : decode cX5_untrue 14 = .ok (.iload_n 2, 1) := by decide +kernel
theorem dX5_untrue_15 : decode cX5_untrue 15 = .ok (.invokevirtual 77, 3) := by decide +kernel
theorem dX5_untrue_18 : decode cX5_untrue 18 = .ok (.ifCond .ne 23, 3) := by decide +kernel
theorem dX5_untrue_21 : decode cX5_untrue 21 = .ok (.iload_n 2, 1) := by decide +kernel
theorem dX5_untrue_22 : decode cX5_untrue 22 = .ok (.aload_n 0, 1) := by decide +kernel
theorem dX5_untrue_23 : decode cX5_untrue 23 = .ok (.getfield 66, 3) := by decide +kernel
theorem dX5_untrue_26 : decode cX5_untrue 26 = .ok (.if_icmp .ne 19, 3) := by decide +kernel
theorem dX5_untrue_29 : decode cX5_untrue 29 = .ok (.aload_n 0, 1) := by decide +kernel
theorem dX5_untrue_30 : decode cX5_untrue 30 = .ok (.getfield 25, 3) := by decide +kernel
theorem dX5_untrue_33 : decode cX5_untrue 33 = .ok (.iload_n 2, 1) := by decide +kernel
theorem dX5_untrue_34 : decode cX5_untrue 34 = .ok (.iaload, 1) := by decide +kernel
theorem dX5_untrue_35 : decode cX5_untrue 35 = .ok (.sipush 1865, 3) := by decide +kernel
theorem dX5_untrue_38 : decode cX5_untrue 38 = .ok (.if_icmp .ne 7, 3) := by decide +kernel
theorem dX5_untrue_41 : decode cX5_untrue 41 = .ok (.iconst 0, 1) := by decide +kernel
theorem dX5_untrue_42 : decode cX5_untrue 42 = .ok (.goto 4, 3) := by decide +kernel
theorem dX5_untrue_45 : decode cX5_untrue 45 = .ok (.iconst 1, 1) := by decide +kernel
theorem dX5_untrue_46 : decode cX5_untrue 46 = .ok (.iadd, 1) := by decide +kernel
theorem dX5_untrue_47 : decode cX5_untrue 47 = .ok (.istore_n 1, 1) := by decide +kernel
theorem dX5_untrue_48 : decode cX5_untrue 48 = .ok (.iinc 2 1, 3) := by decide +kernel
theorem dX5_untrue_51 : decode cX5_untrue 51 = .ok (.goto (-47), 3) := by decide +kernel
theorem dX5_untrue_54 : decode cX5_untrue 54 = .ok (.iload_n 1, 1) := by decide +kernel
theorem dX5_untrue_55 : decode cX5_untrue 55 = .ok (.ireturn, 1) := by decide +kernel
theorem dX5_isNew_0 : decode cX5_isNew 0 = .ok (.iconst 0, 1) := by decide +kernel
theorem dX5_isNew_1 : decode cX5_isNew 1 = .ok (.istore_n 2, 1) := by decide +kernel
theorem dX5_isNew_2 : decode cX5_isNew 2 = .ok (.iload_n 2, 1) := by decide +kernel
theorem dX5_isNew_3 : decode cX5_isNew 3 = .ok (.iload_n 1, 1) := by decide +kernel
theorem dX5_isNew_4 : decode cX5_isNew 4 = .ok (.if_icmp .ge 26, 3) := by decide +kernel
theorem dX5_isNew_7 : decode cX5_isNew 7 = .ok (.aload_n 0, 1) := by decide +kernel
theorem dX5_isNew_8 : decode cX5_isNew 8 = .ok (.getfield 25, 3) := by decide +kernel
theorem dX5_isNew_11 : decode cX5_isNew 11 = .ok (.iload_n 2, 1) := by decide +kernel
theorem dX5_isNew_12 : decode cX5_isNew 12 = .ok (.iaload, 1) := by decide +kernel
theorem dX5_isNew_13 : decode cX5_isNew 13 = .ok (.aload_n 0, 1) := by decide +kernel
theorem dX5_isNew_14 : decode cX5_isNew 14 = .ok (.getfield 25, 3) := by decide +kernel
theorem dX5_isNew_17 : decode cX5_isNew 17 = .ok (.iload_n 1, 1) := by decide +kernel
theorem dX5_isNew_18 : decode cX5_isNew 18 = .ok (.iaload, 1) := by decide +kernel
theorem dX5_isNew_19 : decode cX5_isNew 19 = .ok (.if_icmp .ne 5, 3) := by decide +kernel
theorem dX5_isNew_22 : decode cX5_isNew 22 = .ok (.iconst 0, 1) := by decide +kernel
theorem dX5_isNew_23 : decode cX5_isNew 23 = .ok (.ireturn, 1) := by decide +kernel
theorem dX5_isNew_24 : decode cX5_isNew 24 = .ok (.iinc 2 1, 3) := by decide +kernel
theorem dX5_isNew_27 : decode cX5_isNew 27 = .ok (.goto (-25), 3) := by decide +kernel
theorem dX5_isNew_30 : decode cX5_isNew 30 = .ok (.iconst 1, 1) := by decide +kernel
theorem dX5_isNew_31 : decode cX5_isNew 31 = .ok (.ireturn, 1) := by decide +kernel
theorem dX5_course_0 : decode cX5_course 0 = .ok (.iconst 1, 1) := by decide +kernel
theorem dX5_course_1 : decode cX5_course 1 = .ok (.istore_n 2, 1) := by decide +kernel
theorem dX5_course_2 : decode cX5_course 2 = .ok (.aload_n 0, 1) := by decide +kernel
theorem dX5_course_3 : decode cX5_course 3 = .ok (.iload_n 1, 1) := by decide +kernel
theorem dX5_course_4 : decode cX5_course 4 = .ok (.iload_n 2, 1) := by decide +kernel
theorem dX5_course_5 : decode cX5_course 5 = .ok (.invokevirtual 81, 3) := by decide +kernel
theorem dX5_course_8 : decode cX5_course 8 = .ok (.aload_n 0, 1) := by decide +kernel
theorem dX5_course_9 : decode cX5_course 9 = .ok (.getfield 25, 3) := by decide +kernel
theorem dX5_course_12 : decode cX5_course 12 = .ok (.aload_n 0, 1) := by decide +kernel
theorem dX5_course_13 : decode cX5_course 13 = .ok (.getfield 66, 3) := by decide +kernel
theorem dX5_course_16 : decode cX5_course 16 = .ok (.iaload, 1) := by decide +kernel
theorem dX5_course_17 : decode cX5_course 17 = .ok (.sipush 1865, 3) := by decide +kernel
theorem dX5_course_20 : decode cX5_course 20 = .ok (.if_icmp .eq 15, 3) := by decide +kernel
theorem dX5_course_23 : decode cX5_course 23 = .ok (.iinc 2 1, 3) := by decide +kernel
theorem dX5_course_26 : decode cX5_course 26 = .ok (.aload_n 0, 1) := by decide +kernel
theorem dX5_course_27 : decode cX5_course 27 = .ok (.iload_n 1, 1) := by decide +kernel
theorem dX5_course_28 : decode cX5_course 28 = .ok (.iload_n 2, 1) := by decide +kernel
theorem dX5_course_29 : decode cX5_course 29 = .ok (.invokevirtual 81, 3) := by decide +kernel
theorem dX5_course_32 : decode cX5_course 32 = .ok (.goto (-24), 3) := by decide +kernel
theorem dX5_course_35 : decode cX5_course 35 = .ok (.iload_n 2, 1) := by decide +kernel
theorem dX5_course_36 : decode cX5_course 36 = .ok (.ireturn, 1) := by decide +kernel
theorem dX5_dodgesOf_0 : decode cX5_dodgesOf 0 = .ok (.iconst 0, 1) := by decide +kernel
theorem dX5_dodgesOf_1 : decode cX5_dodgesOf 1 = .ok (.istore_n 2, 1) := by decide +kernel
theorem dX5_dodgesOf_2 : decode cX5_dodgesOf 2 = .ok (.iconst 1, 1) := by decide +kernel
theorem dX5_dodgesOf_3 : decode cX5_dodgesOf 3 = .ok (.istore_n 3, 1) := by decide +kernel
theorem dX5_dodgesOf_4 : decode cX5_dodgesOf 4 = .ok (.iload_n 3, 1) := by decide +kernel
theorem dX5_dodgesOf_5 : decode cX5_dodgesOf 5 = .ok (.aload_n 0, 1) := by decide +kernel
theorem dX5_dodgesOf_6 : decode cX5_dodgesOf 6 = .ok (.getfield 66, 3) := by decide +kernel
theorem dX5_dodgesOf_9 : decode cX5_dodgesOf 9 = .ok (.if_icmp .gt 22, 3) := by decide +kernel
theorem dX5_dodgesOf_12 : decode cX5_dodgesOf 12 = .ok (.iload_n 2, 1) := by decide +kernel
theorem dX5_dodgesOf_13 : decode cX5_dodgesOf 13 = .ok (.aload_n 0, 1) := by decide +kernel
theorem dX5_dodgesOf_14 : decode cX5_dodgesOf 14 = .ok (.getfield 28, 3) := by decide +kernel
theorem dX5_dodgesOf_17 : decode cX5_dodgesOf 17 = .ok (.iload_n 3, 1) := by decide +kernel
theorem dX5_dodgesOf_18 : decode cX5_dodgesOf 18 = .ok (.iaload, 1) := by decide +kernel
theorem dX5_dodgesOf_19 : decode cX5_dodgesOf 19 = .ok (.iload_n 1, 1) := by decide +kernel
theorem dX5_dodgesOf_20 : decode cX5_dodgesOf 20 = .ok (.ishr, 1) := by decide +kernel
theorem dX5_dodgesOf_21 : decode cX5_dodgesOf 21 = .ok (.iconst 1, 1) := by decide +kernel
theorem dX5_dodgesOf_22 : decode cX5_dodgesOf 22 = .ok (.iand, 1) := by decide +kernel
theorem dX5_dodgesOf_23 : decode cX5_dodgesOf 23 = .ok (.iadd, 1) := by decide +kernel
theorem dX5_dodgesOf_24 : decode cX5_dodgesOf 24 = .ok (.istore_n 2, 1) := by decide +kernel
theorem dX5_dodgesOf_25 : decode cX5_dodgesOf 25 = .ok (.iinc 3 1, 3) := by decide +kernel
theorem dX5_dodgesOf_28 : decode cX5_dodgesOf 28 = .ok (.goto (-24), 3) := by decide +kernel
theorem dX5_dodgesOf_31 : decode cX5_dodgesOf 31 = .ok (.iload_n 2, 1) := by decide +kernel
theorem dX5_dodgesOf_32 : decode cX5_dodgesOf 32 = .ok (.ireturn, 1) := by decide +kernel
theorem dX5_ringer_0 : decode cX5_ringer 0 = .ok (.aload_n 0, 1) := by decide +kernel
theorem dX5_ringer_1 : decode cX5_ringer 1 = .ok (.iconst 0, 1) := by decide +kernel
theorem dX5_ringer_2 : decode cX5_ringer 2 = .ok (.putfield 52, 3) := by decide +kernel
theorem dX5_ringer_5 : decode cX5_ringer 5 = .ok (.iload_n 1, 1) := by decide +kernel
theorem dX5_ringer_6 : decode cX5_ringer 6 = .ok (.iconst 0, 1) := by decide +kernel
theorem dX5_ringer_7 : decode cX5_ringer 7 = .ok (.iconst 3, 1) := by decide +kernel
theorem dX5_ringer_8 : decode cX5_ringer 8 = .ok (.invokestatic 59, 3) := by decide +kernel
theorem dX5_ringer_11 : decode cX5_ringer 11 = .ok (.ifCond .ne 9, 3) := by decide +kernel
theorem dX5_ringer_14 : decode cX5_ringer 14 = .ok (.aload_n 0, 1) := by decide +kernel
theorem dX5_ringer_15 : decode cX5_ringer 15 = .ok (.iconst 1, 1) := by decide +kernel
theorem dX5_ringer_16 : decode cX5_ringer 16 = .ok (.invokevirtual 84, 3) := by decide +kernel
theorem dX5_ringer_19 : decode cX5_ringer 19 = .ok (.ireturn, 1) := by decide +kernel
theorem dX5_ringer_20 : decode cX5_ringer 20 = .ok (.iload_n 2, 1) := by decide +kernel
theorem dX5_ringer_21 : decode cX5_ringer 21 = .ok (.iconst 0, 1) := by decide +kernel
theorem dX5_ringer_22 : decode cX5_ringer 22 = .ok (.bipush 9, 2) := by decide +kernel
theorem dX5_ringer_24 : decode cX5_ringer 24 = .ok (.invokestatic 59, 3) := by decide +kernel
theorem dX5_ringer_27 : decode cX5_ringer 27 = .ok (.ifCond .eq 13, 3) := by decide +kernel
theorem dX5_ringer_30 : decode cX5_ringer 30 = .ok (.iload_n 3, 1) := by decide +kernel
theorem dX5_ringer_31 : decode cX5_ringer 31 = .ok (.iconst 0, 1) := by decide +kernel
theorem dX5_ringer_32 : decode cX5_ringer 32 = .ok (.bipush 99, 2) := by decide +kernel
theorem dX5_ringer_34 : decode cX5_ringer 34 = .ok (.invokestatic 59, 3) := by decide +kernel
theorem dX5_ringer_37 : decode cX5_ringer 37 = .ok (.ifCond .ne 9, 3) := by decide +kernel
theorem dX5_ringer_40 : decode cX5_ringer 40 = .ok (.aload_n 0, 1) := by decide +kernel
theorem dX5_ringer_41 : decode cX5_ringer 41 = .ok (.iconst 2, 1) := by decide +kernel
theorem dX5_ringer_42 : decode cX5_ringer 42 = .ok (.invokevirtual 84, 3) := by decide +kernel
theorem dX5_ringer_45 : decode cX5_ringer 45 = .ok (.ireturn, 1) := by decide +kernel
theorem dX5_ringer_46 : decode cX5_ringer 46 = .ok (.aload_n 0, 1) := by decide +kernel
theorem dX5_ringer_47 : decode cX5_ringer 47 = .ok (.getfield 56, 3) := by decide +kernel
theorem dX5_ringer_50 : decode cX5_ringer 50 = .ok (.bipush 20, 2) := by decide +kernel
theorem dX5_ringer_52 : decode cX5_ringer 52 = .ok (.if_icmp .ne 9, 3) := by decide +kernel
theorem dX5_ringer_55 : decode cX5_ringer 55 = .ok (.aload_n 0, 1) := by decide +kernel
theorem dX5_ringer_56 : decode cX5_ringer 56 = .ok (.iconst 3, 1) := by decide +kernel
theorem dX5_ringer_57 : decode cX5_ringer 57 = .ok (.invokevirtual 84, 3) := by decide +kernel
theorem dX5_ringer_60 : decode cX5_ringer 60 = .ok (.ireturn, 1) := by decide +kernel
theorem dX5_ringer_61 : decode cX5_ringer 61 = .ok (.aload_n 0, 1) := by decide +kernel
theorem dX5_ringer_62 : decode cX5_ringer 62 = .ok (.getfield 9, 3) := by decide +kernel
theorem dX5_ringer_65 : decode cX5_ringer 65 = .ok (.aload_n 0, 1) := by decide +kernel
theorem dX5_ringer_66 : decode cX5_ringer 66 = .ok (.getfield 56, 3) := by decide +kernel
theorem dX5_ringer_69 : decode cX5_ringer 69 = .ok (.iload_n 1, 1) := by decide +kernel
theorem dX5_ringer_70 : decode cX5_ringer 70 = .ok (.iastore, 1) := by decide +kernel
theorem dX5_ringer_71 : decode cX5_ringer 71 = .ok (.aload_n 0, 1) := by decide +kernel
theorem dX5_ringer_72 : decode cX5_ringer 72 = .ok (.getfield 13, 3) := by decide +kernel
theorem dX5_ringer_75 : decode cX5_ringer 75 = .ok (.aload_n 0, 1) := by decide +kernel
theorem dX5_ringer_76 : decode cX5_ringer 76 = .ok (.getfield 56, 3) := by decide +kernel
theorem dX5_ringer_79 : decode cX5_ringer 79 = .ok (.iload_n 2, 1) := by decide +kernel
theorem dX5_ringer_80 : decode cX5_ringer 80 = .ok (.iastore, 1) := by decide +kernel
theorem dX5_ringer_81 : decode cX5_ringer 81 = .ok (.aload_n 0, 1) := by decide +kernel
theorem dX5_ringer_82 : decode cX5_ringer 82 = .ok (.getfield 45, 3) := by decide +kernel
theorem dX5_ringer_85 : decode cX5_ringer 85 = .ok (.getfield 88, 3) := by decide +kernel
theorem dX5_ringer_88 : decode cX5_ringer 88 = .ok (.aload_n 0, 1) := by decide +kernel
theorem dX5_ringer_89 : decode cX5_ringer 89 = .ok (.getfield 56, 3) := by decide +kernel
theorem dX5_ringer_92 : decode cX5_ringer 92 = .ok (.iload_n 3, 1) := by decide +kernel
theorem dX5_ringer_93 : decode cX5_ringer 93 = .ok (.iastore, 1) := by decide +kernel
theorem dX5_ringer_94 : decode cX5_ringer 94 = .ok (.aload_n 0, 1) := by decide +kernel
theorem dX5_ringer_95 : decode cX5_ringer 95 = .ok (.getfield 45, 3) := by decide +kernel
theorem dX5_ringer_98 : decode cX5_ringer 98 = .ok (.getfield 91, 3) := by decide +kernel
theorem dX5_ringer_101 : decode cX5_ringer 101 = .ok (.aload_n 0, 1) := by decide +kernel
theorem dX5_ringer_102 : decode cX5_ringer 102 = .ok (.getfield 56, 3) := by decide +kernel
theorem dX5_ringer_105 : decode cX5_ringer 105 = .ok (.iconst (-1), 1) := by decide +kernel
theorem dX5_ringer_106 : decode cX5_ringer 106 = .ok (.iastore, 1) := by decide +kernel
theorem dX5_ringer_107 : decode cX5_ringer 107 = .ok (.aload_n 0, 1) := by decide +kernel
theorem dX5_ringer_108 : decode cX5_ringer 108 = .ok (.dup, 1) := by decide +kernel
theorem dX5_ringer_109 : decode cX5_ringer 109 = .ok (.getfield 56, 3) := by decide +kernel
theorem dX5_ringer_112 : decode cX5_ringer 112 = .ok (.iconst 1, 1) := by decide +kernel
theorem dX5_ringer_113 : decode cX5_ringer 113 = .ok (.iadd, 1) := by decide +kernel
theorem dX5_ringer_114 : decode cX5_ringer 114 = .ok (.putfield 56, 3) := by decide +kernel
theorem dX5_ringer_117 : decode cX5_ringer 117 = .ok (.aload_n 0, 1) := by decide +kernel
theorem dX5_ringer_118 : decode cX5_ringer 118 = .ok (.getfield 56, 3) := by decide +kernel
theorem dX5_ringer_121 : decode cX5_ringer 121 = .ok (.iconst 1, 1) := by decide +kernel
theorem dX5_ringer_122 : decode cX5_ringer 122 = .ok (.isub, 1) := by decide +kernel
theorem dX5_ringer_123 : decode cX5_ringer 123 = .ok (.ireturn, 1) := by decide +kernel
theorem dX5_vote_0 : decode cX5_vote 0 = .ok (.aload_n 0, 1) := by decide +kernel
theorem dX5_vote_1 : decode cX5_vote 1 = .ok (.iconst 0, 1) := by decide +kernel
theorem dX5_vote_2 : decode cX5_vote 2 = .ok (.putfield 52, 3) := by decide +kernel
theorem dX5_vote_5 : decode cX5_vote 5 = .ok (.aload_n 0, 1) := by decide +kernel
theorem dX5_vote_6 : decode cX5_vote 6 = .ok (.iload_n 1, 1) := by decide +kernel
theorem dX5_vote_7 : decode cX5_vote 7 = .ok (.invokevirtual 94, 3) := by decide +kernel
theorem dX5_vote_10 : decode cX5_vote 10 = .ok (.ifCond .ne 9, 3) := by decide +kernel
theorem dX5_vote_13 : decode cX5_vote 13 = .ok (.aload_n 0, 1) := by decide +kernel
theorem dX5_vote_14 : decode cX5_vote 14 = .ok (.iconst 1, 1) := by decide +kernel
theorem dX5_vote_15 : decode cX5_vote 15 = .ok (.invokevirtual 84, 3) := by decide +kernel
theorem dX5_vote_18 : decode cX5_vote 18 = .ok (.ireturn, 1) := by decide +kernel
theorem dX5_vote_19 : decode cX5_vote 19 = .ok (.iload_n 2, 1) := by decide +kernel
theorem dX5_vote_20 : decode cX5_vote 20 = .ok (.bipush (-99), 2) := by decide +kernel
theorem dX5_vote_22 : decode cX5_vote 22 = .ok (.bipush 99, 2) := by decide +kernel
theorem dX5_vote_24 : decode cX5_vote 24 = .ok (.invokestatic 59, 3) := by decide +kernel
theorem dX5_vote_27 : decode cX5_vote 27 = .ok (.ifCond .ne 9, 3) := by decide +kernel
theorem dX5_vote_30 : decode cX5_vote 30 = .ok (.aload_n 0, 1) := by decide +kernel
theorem dX5_vote_31 : decode cX5_vote 31 = .ok (.iconst 2, 1) := by decide +kernel
theorem dX5_vote_32 : decode cX5_vote 32 = .ok (.invokevirtual 84, 3) := by decide +kernel
theorem dX5_vote_35 : decode cX5_vote 35 = .ok (.ireturn, 1) := by decide +kernel
theorem dX5_vote_36 : decode cX5_vote 36 = .ok (.aload_n 0, 1) := by decide +kernel
theorem dX5_vote_37 : decode cX5_vote 37 = .ok (.getfield 45, 3) := by decide +kernel
theorem dX5_vote_40 : decode cX5_vote 40 = .ok (.getfield 88, 3) := by decide +kernel
theorem dX5_vote_43 : decode cX5_vote 43 = .ok (.iload_n 1, 1) := by decide +kernel
theorem dX5_vote_44 : decode cX5_vote 44 = .ok (.iconst 0, 1) := by decide +kernel
theorem dX5_vote_45 : decode cX5_vote 45 = .ok (.bipush 99, 2) := by decide +kernel
theorem dX5_vote_47 : decode cX5_vote 47 = .ok (.aload_n 0, 1) := by decide +kernel
theorem dX5_vote_48 : decode cX5_vote 48 = .ok (.getfield 45, 3) := by decide +kernel
theorem dX5_vote_51 : decode cX5_vote 51 = .ok (.getfield 88, 3) := by decide +kernel
theorem dX5_vote_54 : decode cX5_vote 54 = .ok (.iload_n 1, 1) := by decide +kernel
theorem dX5_vote_55 : decode cX5_vote 55 = .ok (.iaload, 1) := by decide +kernel
theorem dX5_vote_56 : decode cX5_vote 56 = .ok (.iload_n 2, 1) := by decide +kernel
theorem dX5_vote_57 : decode cX5_vote 57 = .ok (.iadd, 1) := by decide +kernel
theorem dX5_vote_58 : decode cX5_vote 58 = .ok (.invokestatic 97, 3) := by decide +kernel
theorem dX5_vote_61 : decode cX5_vote 61 = .ok (.invokestatic 103, 3) := by decide +kernel
theorem dX5_vote_64 : decode cX5_vote 64 = .ok (.iastore, 1) := by decide +kernel
theorem dX5_vote_65 : decode cX5_vote 65 = .ok (.aload_n 0, 1) := by decide +kernel
theorem dX5_vote_66 : decode cX5_vote 66 = .ok (.getfield 45, 3) := by decide +kernel
theorem dX5_vote_69 : decode cX5_vote 69 = .ok (.getfield 88, 3) := by decide +kernel
theorem dX5_vote_72 : decode cX5_vote 72 = .ok (.iload_n 1, 1) := by decide +kernel
theorem dX5_vote_73 : decode cX5_vote 73 = .ok (.iaload, 1) := by decide +kernel
theorem dX5_vote_74 : decode cX5_vote 74 = .ok (.ireturn, 1) := by decide +kernel
theorem dX5_seat_0 : decode cX5_seat 0 = .ok (.aload_n 0, 1) := by decide +kernel
theorem dX5_seat_1 : decode cX5_seat 1 = .ok (.iconst 0, 1) := by decide +kernel
theorem dX5_seat_2 : decode cX5_seat 2 = .ok (.putfield 52, 3) := by decide +kernel
theorem dX5_seat_5 : decode cX5_seat 5 = .ok (.iload_n 1, 1) := by decide +kernel
theorem dX5_seat_6 : decode cX5_seat 6 = .ok (.iload_n 2, 1) := by decide +kernel
theorem dX5_seat_7 : decode cX5_seat 7 = .ok (.invokestatic 106, 3) := by decide +kernel
theorem dX5_seat_10 : decode cX5_seat 10 = .ok (.ifCond .eq 12, 3) := by decide +kernel
theorem dX5_seat_13 : decode cX5_seat 13 = .ok (.iload_n 3, 1) := by decide +kernel
theorem dX5_seat_14 : decode cX5_seat 14 = .ok (.iconst 0, 1) := by decide +kernel
theorem dX5_seat_15 : decode cX5_seat 15 = .ok (.iconst 3, 1) := by decide +kernel
theorem dX5_seat_16 : decode cX5_seat 16 = .ok (.invokestatic 59, 3) := by decide +kernel
theorem dX5_seat_19 : decode cX5_seat 19 = .ok (.ifCond .ne 9, 3) := by decide +kernel
theorem dX5_seat_22 : decode cX5_seat 22 = .ok (.aload_n 0, 1) := by decide +kernel
theorem dX5_seat_23 : decode cX5_seat 23 = .ok (.iconst 1, 1) := by decide +kernel
theorem dX5_seat_24 : decode cX5_seat 24 = .ok (.invokevirtual 84, 3) := by decide +kernel
theorem dX5_seat_27 : decode cX5_seat 27 = .ok (.ireturn, 1) := by decide +kernel
theorem dX5_seat_28 : decode cX5_seat 28 = .ok (.aload_n 0, 1) := by decide +kernel
theorem dX5_seat_29 : decode cX5_seat 29 = .ok (.getfield 16, 3) := by decide +kernel
theorem dX5_seat_32 : decode cX5_seat 32 = .ok (.bipush 6, 2) := by decide +kernel
theorem dX5_seat_34 : decode cX5_seat 34 = .ok (.iload_n 1, 1) := by decide +kernel
theorem dX5_seat_35 : decode cX5_seat 35 = .ok (.imul, 1) := by decide +kernel
theorem dX5_seat_36 : decode cX5_seat 36 = .ok (.iload_n 2, 1) := by decide +kernel
theorem dX5_seat_37 : decode cX5_seat 37 = .ok (.iadd, 1) := by decide +kernel
theorem dX5_seat_38 : decode cX5_seat 38 = .ok (.iaload, 1) := by decide +kernel
theorem dX5_seat_39 : decode cX5_seat 39 = .ok (.istore 4, 2) := by decide +kernel
theorem dX5_seat_41 : decode cX5_seat 41 = .ok (.aload_n 0, 1) := by decide +kernel
theorem dX5_seat_42 : decode cX5_seat 42 = .ok (.getfield 16, 3) := by decide +kernel
theorem dX5_seat_45 : decode cX5_seat 45 = .ok (.bipush 6, 2) := by decide +kernel
theorem dX5_seat_47 : decode cX5_seat 47 = .ok (.iload_n 1, 1) := by decide +kernel
theorem dX5_seat_48 : decode cX5_seat 48 = .ok (.imul, 1) := by decide +kernel
theorem dX5_seat_49 : decode cX5_seat 49 = .ok (.iload_n 2, 1) := by decide +kernel
theorem dX5_seat_50 : decode cX5_seat 50 = .ok (.iadd, 1) := by decide +kernel
theorem dX5_seat_51 : decode cX5_seat 51 = .ok (.iload_n 3, 1) := by decide +kernel
theorem dX5_seat_52 : decode cX5_seat 52 = .ok (.iastore, 1) := by decide +kernel
theorem dX5_seat_53 : decode cX5_seat 53 = .ok (.iload 4, 2) := by decide +kernel
theorem dX5_seat_55 : decode cX5_seat 55 = .ok (.ireturn, 1) := by decide +kernel
theorem dX5_elect_0 : decode cX5_elect 0 = .ok (.aload_n 0, 1) := by decide +kernel
theorem dX5_elect_1 : decode cX5_elect 1 = .ok (.iconst 0, 1) := by decide +kernel
theorem dX5_elect_2 : decode cX5_elect 2 = .ok (.putfield 52, 3) := by decide +kernel
theorem dX5_elect_5 : decode cX5_elect 5 = .ok (.iload_n 1, 1) := by decide +kernel
theorem dX5_elect_6 : decode cX5_elect 6 = .ok (.iconst 0, 1) := by decide +kernel
theorem dX5_elect_7 : decode cX5_elect 7 = .ok (.iconst 2, 1) := by decide +kernel
theorem dX5_elect_8 : decode cX5_elect 8 = .ok (.invokestatic 59, 3) := by decide +kernel
theorem dX5_elect_11 : decode cX5_elect 11 = .ok (.ifCond .eq 18, 3) := by decide +kernel
theorem dX5_elect_14 : decode cX5_elect 14 = .ok (.aload_n 0, 1) := by decide +kernel
theorem dX5_elect_15 : decode cX5_elect 15 = .ok (.getfield 45, 3) := by decide +kernel
theorem dX5_elect_18 : decode cX5_elect 18 = .ok (.iload_n 1, 1) := by decide +kernel
theorem dX5_elect_19 : decode cX5_elect 19 = .ok (.invokevirtual 110, 3) := by decide +kernel
theorem dX5_elect_22 : decode cX5_elect 22 = .ok (.iload_n 1, 1) := by decide +kernel
theorem dX5_elect_23 : decode cX5_elect 23 = .ok (.invokevirtual 114, 3) := by decide +kernel
theorem dX5_elect_26 : decode cX5_elect 26 = .ok (.goto 8, 3) := by decide +kernel
theorem dX5_elect_29 : decode cX5_elect 29 = .ok (.aload_n 0, 1) := by decide +kernel
theorem dX5_elect_30 : decode cX5_elect 30 = .ok (.iconst 1, 1) := by decide +kernel
theorem dX5_elect_31 : decode cX5_elect 31 = .ok (.invokevirtual 84, 3) := by decide +kernel
theorem dX5_elect_34 : decode cX5_elect 34 = .ok (.ireturn, 1) := by decide +kernel
theorem dX5_put_0 : decode cX5_put 0 = .ok (.aload_n 0, 1) := by decide +kernel
theorem dX5_put_1 : decode cX5_put 1 = .ok (.iconst 0, 1) := by decide +kernel
theorem dX5_put_2 : decode cX5_put 2 = .ok (.putfield 52, 3) := by decide +kernel
theorem dX5_put_5 : decode cX5_put 5 = .ok (.iload_n 1, 1) := by decide +kernel
theorem dX5_put_6 : decode cX5_put 6 = .ok (.iload_n 2, 1) := by decide +kernel
theorem dX5_put_7 : decode cX5_put 7 = .ok (.invokestatic 106, 3) := by decide +kernel
theorem dX5_put_10 : decode cX5_put 10 = .ok (.ifCond .eq 11, 3) := by decide +kernel
theorem dX5_put_13 : decode cX5_put 13 = .ok (.aload_n 0, 1) := by decide +kernel
theorem dX5_put_14 : decode cX5_put 14 = .ok (.iload_n 3, 1) := by decide +kernel
theorem dX5_put_15 : decode cX5_put 15 = .ok (.invokevirtual 94, 3) := by decide +kernel
theorem dX5_put_18 : decode cX5_put 18 = .ok (.ifCond .ne 9, 3) := by decide +kernel
theorem dX5_put_21 : decode cX5_put 21 = .ok (.aload_n 0, 1) := by decide +kernel
theorem dX5_put_22 : decode cX5_put 22 = .ok (.iconst 1, 1) := by decide +kernel
theorem dX5_put_23 : decode cX5_put 23 = .ok (.invokevirtual 84, 3) := by decide +kernel
theorem dX5_put_26 : decode cX5_put 26 = .ok (.ireturn, 1) := by decide +kernel
theorem dX5_put_27 : decode cX5_put 27 = .ok (.aload_n 0, 1) := by decide +kernel
theorem dX5_put_28 : decode cX5_put 28 = .ok (.getfield 45, 3) := by decide +kernel
theorem dX5_put_31 : decode cX5_put 31 = .ok (.bipush 6, 2) := by decide +kernel
theorem dX5_put_33 : decode cX5_put 33 = .ok (.iload_n 1, 1) := by decide +kernel
theorem dX5_put_34 : decode cX5_put 34 = .ok (.imul, 1) := by decide +kernel
theorem dX5_put_35 : decode cX5_put 35 = .ok (.iload_n 2, 1) := by decide +kernel
theorem dX5_put_36 : decode cX5_put 36 = .ok (.iadd, 1) := by decide +kernel
theorem dX5_put_37 : decode cX5_put 37 = .ok (.invokevirtual 117, 3) := by decide +kernel
theorem dX5_put_40 : decode cX5_put 40 = .ok (.iconst (-1), 1) := by decide +kernel
theorem dX5_put_41 : decode cX5_put 41 = .ok (.if_icmp .ne 16, 3) := by decide +kernel
theorem dX5_put_44 : decode cX5_put 44 = .ok (.aload_n 0, 1) := by decide +kernel
theorem dX5_put_45 : decode cX5_put 45 = .ok (.getfield 45, 3) := by decide +kernel
theorem dX5_put_48 : decode cX5_put 48 = .ok (.getfield 91, 3) := by decide +kernel
theorem dX5_put_51 : decode cX5_put 51 = .ok (.iload_n 3, 1) := by decide +kernel
theorem dX5_put_52 : decode cX5_put 52 = .ok (.iaload, 1) := by decide +kernel
theorem dX5_put_53 : decode cX5_put 53 = .ok (.iconst (-1), 1) := by decide +kernel
theorem dX5_put_54 : decode cX5_put 54 = .ok (.if_icmp .eq 9, 3) := by decide +kernel
theorem dX5_put_57 : decode cX5_put 57 = .ok (.aload_n 0, 1) := by decide +kernel
theorem dX5_put_58 : decode cX5_put 58 = .ok (.iconst 2, 1) := by decide +kernel
theorem dX5_put_59 : decode cX5_put 59 = .ok (.invokevirtual 84, 3) := by decide +kernel
theorem dX5_put_62 : decode cX5_put 62 = .ok (.ireturn, 1) := by decide +kernel
theorem dX5_put_63 : decode cX5_put 63 = .ok (.aload_n 0, 1) := by decide +kernel
theorem dX5_put_64 : decode cX5_put 64 = .ok (.getfield 45, 3) := by decide +kernel
theorem dX5_put_67 : decode cX5_put 67 = .ok (.getfield 91, 3) := by decide +kernel
theorem dX5_put_70 : decode cX5_put 70 = .ok (.iload_n 3, 1) := by decide +kernel
theorem dX5_put_71 : decode cX5_put 71 = .ok (.bipush 6, 2) := by decide +kernel
theorem dX5_put_73 : decode cX5_put 73 = .ok (.iload_n 1, 1) := by decide +kernel
theorem dX5_put_74 : decode cX5_put 74 = .ok (.imul, 1) := by decide +kernel
theorem dX5_put_75 : decode cX5_put 75 = .ok (.iload_n 2, 1) := by decide +kernel
theorem dX5_put_76 : decode cX5_put 76 = .ok (.iadd, 1) := by decide +kernel
theorem dX5_put_77 : decode cX5_put 77 = .ok (.iastore, 1) := by decide +kernel
theorem dX5_put_78 : decode cX5_put 78 = .ok (.aload_n 0, 1) := by decide +kernel
theorem dX5_put_79 : decode cX5_put 79 = .ok (.getfield 16, 3) := by decide +kernel
theorem dX5_put_82 : decode cX5_put 82 = .ok (.bipush 6, 2) := by decide +kernel
theorem dX5_put_84 : decode cX5_put 84 = .ok (.iload_n 1, 1) := by decide +kernel
theorem dX5_put_85 : decode cX5_put 85 = .ok (.imul, 1) := by decide +kernel
theorem dX5_put_86 : decode cX5_put 86 = .ok (.iload_n 2, 1) := by decide +kernel
theorem dX5_put_87 : decode cX5_put 87 = .ok (.iadd, 1) := by decide +kernel
theorem dX5_put_88 : decode cX5_put 88 = .ok (.iaload, 1) := by decide +kernel
theorem dX5_put_89 : decode cX5_put 89 = .ok (.ireturn, 1) := by decide +kernel
theorem dX5_leave_0 : decode cX5_leave 0 = .ok (.aload_n 0, 1) := by decide +kernel
theorem dX5_leave_1 : decode cX5_leave 1 = .ok (.iconst 0, 1) := by decide +kernel
theorem dX5_leave_2 : decode cX5_leave 2 = .ok (.putfield 52, 3) := by decide +kernel
theorem dX5_leave_5 : decode cX5_leave 5 = .ok (.aload_n 0, 1) := by decide +kernel
theorem dX5_leave_6 : decode cX5_leave 6 = .ok (.iload_n 1, 1) := by decide +kernel
theorem dX5_leave_7 : decode cX5_leave 7 = .ok (.invokevirtual 94, 3) := by decide +kernel
theorem dX5_leave_10 : decode cX5_leave 10 = .ok (.ifCond .ne 9, 3) := by decide +kernel
theorem dX5_leave_13 : decode cX5_leave 13 = .ok (.aload_n 0, 1) := by decide +kernel
theorem dX5_leave_14 : decode cX5_leave 14 = .ok (.iconst 1, 1) := by decide +kernel
theorem dX5_leave_15 : decode cX5_leave 15 = .ok (.invokevirtual 84, 3) := by decide +kernel
theorem dX5_leave_18 : decode cX5_leave 18 = .ok (.ireturn, 1) := by decide +kernel
theorem dX5_leave_19 : decode cX5_leave 19 = .ok (.aload_n 0, 1) := by decide +kernel
theorem dX5_leave_20 : decode cX5_leave 20 = .ok (.getfield 45, 3) := by decide +kernel
theorem dX5_leave_23 : decode cX5_leave 23 = .ok (.getfield 91, 3) := by decide +kernel
theorem dX5_leave_26 : decode cX5_leave 26 = .ok (.iload_n 1, 1) := by decide +kernel
theorem dX5_leave_27 : decode cX5_leave 27 = .ok (.iaload, 1) := by decide +kernel
theorem dX5_leave_28 : decode cX5_leave 28 = .ok (.istore_n 2, 1) := by decide +kernel
theorem dX5_leave_29 : decode cX5_leave 29 = .ok (.iload_n 2, 1) := by decide +kernel
theorem dX5_leave_30 : decode cX5_leave 30 = .ok (.iconst (-1), 1) := by decide +kernel
theorem dX5_leave_31 : decode cX5_leave 31 = .ok (.if_icmp .ne 9, 3) := by decide +kernel
theorem dX5_leave_34 : decode cX5_leave 34 = .ok (.aload_n 0, 1) := by decide +kernel
theorem dX5_leave_35 : decode cX5_leave 35 = .ok (.iconst 2, 1) := by decide +kernel
theorem dX5_leave_36 : decode cX5_leave 36 = .ok (.invokevirtual 84, 3) := by decide +kernel
theorem dX5_leave_39 : decode cX5_leave 39 = .ok (.ireturn, 1) := by decide +kernel
theorem dX5_leave_40 : decode cX5_leave 40 = .ok (.aload_n 0, 1) := by decide +kernel
theorem dX5_leave_41 : decode cX5_leave 41 = .ok (.getfield 45, 3) := by decide +kernel
theorem dX5_leave_44 : decode cX5_leave 44 = .ok (.getfield 91, 3) := by decide +kernel
theorem dX5_leave_47 : decode cX5_leave 47 = .ok (.iload_n 1, 1) := by decide +kernel
theorem dX5_leave_48 : decode cX5_leave 48 = .ok (.iconst (-1), 1) := by decide +kernel
theorem dX5_leave_49 : decode cX5_leave 49 = .ok (.iastore, 1) := by decide +kernel
theorem dX5_leave_50 : decode cX5_leave 50 = .ok (.bipush 10, 2) := by decide +kernel
theorem dX5_leave_52 : decode cX5_leave 52 = .ok (.iload_n 2, 1) := by decide +kernel
theorem dX5_leave_53 : decode cX5_leave 53 = .ok (.bipush 6, 2) := by decide +kernel
theorem dX5_leave_55 : decode cX5_leave 55 = .ok (.idiv, 1) := by decide +kernel
theorem dX5_leave_56 : decode cX5_leave 56 = .ok (.imul, 1) := by decide +kernel
theorem dX5_leave_57 : decode cX5_leave 57 = .ok (.iload_n 2, 1) := by decide +kernel
theorem dX5_leave_58 : decode cX5_leave 58 = .ok (.bipush 6, 2) := by decide +kernel
theorem dX5_leave_60 : decode cX5_leave 60 = .ok (.irem, 1) := by decide +kernel
theorem dX5_leave_61 : decode cX5_leave 61 = .ok (.iadd, 1) := by decide +kernel
theorem dX5_leave_62 : decode cX5_leave 62 = .ok (.ireturn, 1) := by decide +kernel
theorem dX5_ringerTold_0 : decode cX5_ringerTold 0 = .ok (.iconst 1, 1) := by decide +kernel
theorem dX5_ringerTold_1 : decode cX5_ringerTold 1 = .ok (.istore 4, 2) := by decide +kernel
theorem dX5_ringerTold_3 : decode cX5_ringerTold 3 = .ok (.iconst 0, 1) := by decide +kernel
theorem dX5_ringerTold_4 : decode cX5_ringerTold 4 = .ok (.istore 5, 2) := by decide +kernel
theorem dX5_ringerTold_6 : decode cX5_ringerTold 6 = .ok (.iload 5, 2) := by decide +kernel
theorem dX5_ringerTold_8 : decode cX5_ringerTold 8 = .ok (.aload_n 0, 1) := by decide +kernel
theorem dX5_ringerTold_9 : decode cX5_ringerTold 9 = .ok (.getfield 56, 3) := by decide +kernel
theorem dX5_ringerTold_12 : decode cX5_ringerTold 12 = .ok (.if_icmp .ge 51, 3) := by decide +kernel
theorem dX5_ringerTold_15 : decode cX5_ringerTold 15 = .ok (.iload 4, 2) := by decide +kernel
theorem dX5_ringerTold_17 : decode cX5_ringerTold 17 = .ok (.aload_n 0, 1) := by decide +kernel
theorem dX5_ringerTold_18 : decode cX5_ringerTold 18 = .ok (.getfield 9, 3) := by decide +kernel
theorem dX5_ringerTold_21 : decode cX5_ringerTold 21 = .ok (.iload 5, 2) := by decide +kernel
theorem dX5_ringerTold_23 : decode cX5_ringerTold 23 = .ok (.iaload, 1) := by decide +kernel
theorem dX5_ringerTold_24 : decode cX5_ringerTold 24 = .ok (.aload_n 0, 1) := by decide +kernel
theorem dX5_ringerTold_25 : decode cX5_ringerTold 25 = .ok (.getfield 9, 3) := by decide +kernel
theorem dX5_ringerTold_28 : decode cX5_ringerTold 28 = .ok (.iload_n 2, 1) := by decide +kernel
theorem dX5_ringerTold_29 : decode cX5_ringerTold 29 = .ok (.iaload, 1) := by decide +kernel
theorem dX5_ringerTold_30 : decode cX5_ringerTold 30 = .ok (.if_icmp .ne 23, 3) := by decide +kernel
theorem dX5_ringerTold_33 : decode cX5_ringerTold 33 = .ok (.aload_n 1, 1) := by decide +kernel
theorem dX5_ringerTold_34 : decode cX5_ringerTold 34 = .ok (.getfield 88, 3) := by decide +kernel
theorem dX5_ringerTold_37 : decode cX5_ringerTold 37 = .ok (.iload 5, 2) := by decide +kernel
theorem dX5_ringerTold_39 : decode cX5_ringerTold 39 = .ok (.iaload, 1) := by decide +kernel
theorem dX5_ringerTold_40 : decode cX5_ringerTold 40 = .ok (.aload_n 1, 1) := by decide +kernel
theorem dX5_ringerTold_41 : decode cX5_ringerTold 41 = .ok (.getfield 88, 3) := by decide +kernel
theorem dX5_ringerTold_44 : decode cX5_ringerTold 44 = .ok (.iload_n 2, 1) := by decide +kernel
theorem dX5_ringerTold_45 : decode cX5_ringerTold 45 = .ok (.iaload, 1) := by decide +kernel
theorem dX5_ringerTold_46 : decode cX5_ringerTold 46 = .ok (.if_icmp .le 7, 3) := by decide +kernel
theorem dX5_ringerTold_49 : decode cX5_ringerTold 49 = .ok (.iconst 1, 1) := by decide +kernel
theorem dX5_ringerTold_50 : decode cX5_ringerTold 50 = .ok (.goto 4, 3) := by decide +kernel
theorem dX5_ringerTold_53 : decode cX5_ringerTold 53 = .ok (.iconst 0, 1) := by decide +kernel
theorem dX5_ringerTold_54 : decode cX5_ringerTold 54 = .ok (.iadd, 1) := by decide +kernel
theorem dX5_ringerTold_55 : decode cX5_ringerTold 55 = .ok (.istore 4, 2) := by decide +kernel
theorem dX5_ringerTold_57 : decode cX5_ringerTold 57 = .ok (.iinc 5 1, 3) := by decide +kernel
theorem dX5_ringerTold_60 : decode cX5_ringerTold 60 = .ok (.goto (-54), 3) := by decide +kernel
theorem dX5_ringerTold_63 : decode cX5_ringerTold 63 = .ok (.aload_n 1, 1) := by decide +kernel
theorem dX5_ringerTold_64 : decode cX5_ringerTold 64 = .ok (.getfield 91, 3) := by decide +kernel
theorem dX5_ringerTold_67 : decode cX5_ringerTold 67 = .ok (.iload_n 2, 1) := by decide +kernel
theorem dX5_ringerTold_68 : decode cX5_ringerTold 68 = .ok (.iaload, 1) := by decide +kernel
theorem dX5_ringerTold_69 : decode cX5_ringerTold 69 = .ok (.istore 5, 2) := by decide +kernel
theorem dX5_ringerTold_71 : decode cX5_ringerTold 71 = .ok (.bipush 8, 2) := by decide +kernel
theorem dX5_ringerTold_73 : decode cX5_ringerTold 73 = .ok (.newarray .int, 2) := by decide +kernel
theorem dX5_ringerTold_75 : decode cX5_ringerTold 75 = .ok (.dup, 1) := by decide +kernel
theorem dX5_ringerTold_76 : decode cX5_ringerTold 76 = .ok (.iconst 0, 1) := by decide +kernel
theorem dX5_ringerTold_77 : decode cX5_ringerTold 77 = .ok (.aload_n 0, 1) := by decide +kernel
theorem dX5_ringerTold_78 : decode cX5_ringerTold 78 = .ok (.getfield 9, 3) := by decide +kernel
theorem dX5_ringerTold_81 : decode cX5_ringerTold 81 = .ok (.iload_n 2, 1) := by decide +kernel
theorem dX5_ringerTold_82 : decode cX5_ringerTold 82 = .ok (.iaload, 1) := by decide +kernel
theorem dX5_ringerTold_83 : decode cX5_ringerTold 83 = .ok (.iastore, 1) := by decide +kernel
theorem dX5_ringerTold_84 : decode cX5_ringerTold 84 = .ok (.dup, 1) := by decide +kernel
theorem dX5_ringerTold_85 : decode cX5_ringerTold 85 = .ok (.iconst 1, 1) := by decide +kernel
theorem dX5_ringerTold_86 : decode cX5_ringerTold 86 = .ok (.aload_n 0, 1) := by decide +kernel
theorem dX5_ringerTold_87 : decode cX5_ringerTold 87 = .ok (.getfield 13, 3) := by decide +kernel
theorem dX5_ringerTold_90 : decode cX5_ringerTold 90 = .ok (.iload_n 2, 1) := by decide +kernel
theorem dX5_ringerTold_91 : decode cX5_ringerTold 91 = .ok (.iaload, 1) := by decide +kernel
theorem dX5_ringerTold_92 : decode cX5_ringerTold 92 = .ok (.iastore, 1) := by decide +kernel
theorem dX5_ringerTold_93 : decode cX5_ringerTold 93 = .ok (.dup, 1) := by decide +kernel
theorem dX5_ringerTold_94 : decode cX5_ringerTold 94 = .ok (.iconst 2, 1) := by decide +kernel
theorem dX5_ringerTold_95 : decode cX5_ringerTold 95 = .ok (.aload_n 1, 1) := by decide +kernel
theorem dX5_ringerTold_96 : decode cX5_ringerTold 96 = .ok (.getfield 88, 3) := by decide +kernel
theorem dX5_ringerTold_99 : decode cX5_ringerTold 99 = .ok (.iload_n 2, 1) := by decide +kernel
theorem dX5_ringerTold_100 : decode cX5_ringerTold 100 = .ok (.iaload, 1) := by decide +kernel
theorem dX5_ringerTold_101 : decode cX5_ringerTold 101 = .ok (.iastore, 1) := by decide +kernel
theorem dX5_ringerTold_102 : decode cX5_ringerTold 102 = .ok (.dup, 1) := by decide +kernel
theorem dX5_ringerTold_103 : decode cX5_ringerTold 103 = .ok (.iconst 3, 1) := by decide +kernel
theorem dX5_ringerTold_104 : decode cX5_ringerTold 104 = .ok (.aload_n 1, 1) := by decide +kernel
theorem dX5_ringerTold_105 : decode cX5_ringerTold 105 = .ok (.getfield 120, 3) := by decide +kernel
theorem dX5_ringerTold_108 : decode cX5_ringerTold 108 = .ok (.iload_n 2, 1) := by decide +kernel
theorem dX5_ringerTold_109 : decode cX5_ringerTold 109 = .ok (.iaload, 1) := by decide +kernel
theorem dX5_ringerTold_110 : decode cX5_ringerTold 110 = .ok (.iastore, 1) := by decide +kernel
theorem dX5_ringerTold_111 : decode cX5_ringerTold 111 = .ok (.dup, 1) := by decide +kernel
theorem dX5_ringerTold_112 : decode cX5_ringerTold 112 = .ok (.iconst 4, 1) := by decide +kernel
theorem dX5_ringerTold_113 : decode cX5_ringerTold 113 = .ok (.iload 5, 2) := by decide +kernel
theorem dX5_ringerTold_115 : decode cX5_ringerTold 115 = .ok (.ifCond .ge 7, 3) := by decide +kernel
theorem dX5_ringerTold_118 : decode cX5_ringerTold 118 = .ok (.iconst (-1), 1) := by decide +kernel
theorem dX5_ringerTold_119 : decode cX5_ringerTold 119 = .ok (.goto 8, 3) := by decide +kernel
theorem dX5_ringerTold_122 : decode cX5_ringerTold 122 = .ok (.iload 5, 2) := by decide +kernel
theorem dX5_ringerTold_124 : decode cX5_ringerTold 124 = .ok (.bipush 6, 2) := by decide +kernel
theorem dX5_ringerTold_126 : decode cX5_ringerTold 126 = .ok (.idiv, 1) := by decide +kernel
theorem dX5_ringerTold_127 : decode cX5_ringerTold 127 = .ok (.iastore, 1) := by decide +kernel
theorem dX5_ringerTold_128 : decode cX5_ringerTold 128 = .ok (.dup, 1) := by decide +kernel
theorem dX5_ringerTold_129 : decode cX5_ringerTold 129 = .ok (.iconst 5, 1) := by decide +kernel
theorem dX5_ringerTold_130 : decode cX5_ringerTold 130 = .ok (.iload 5, 2) := by decide +kernel
theorem dX5_ringerTold_132 : decode cX5_ringerTold 132 = .ok (.ifCond .ge 7, 3) := by decide +kernel
theorem dX5_ringerTold_135 : decode cX5_ringerTold 135 = .ok (.iconst (-1), 1) := by decide +kernel
theorem dX5_ringerTold_136 : decode cX5_ringerTold 136 = .ok (.goto 8, 3) := by decide +kernel
theorem dX5_ringerTold_139 : decode cX5_ringerTold 139 = .ok (.iload 5, 2) := by decide +kernel
theorem dX5_ringerTold_141 : decode cX5_ringerTold 141 = .ok (.bipush 6, 2) := by decide +kernel
theorem dX5_ringerTold_143 : decode cX5_ringerTold 143 = .ok (.irem, 1) := by decide +kernel
theorem dX5_ringerTold_144 : decode cX5_ringerTold 144 = .ok (.iastore, 1) := by decide +kernel
theorem dX5_ringerTold_145 : decode cX5_ringerTold 145 = .ok (.dup, 1) := by decide +kernel
theorem dX5_ringerTold_146 : decode cX5_ringerTold 146 = .ok (.bipush 6, 2) := by decide +kernel
theorem dX5_ringerTold_148 : decode cX5_ringerTold 148 = .ok (.aload_n 1, 1) := by decide +kernel
theorem dX5_ringerTold_149 : decode cX5_ringerTold 149 = .ok (.getfield 123, 3) := by decide +kernel
theorem dX5_ringerTold_152 : decode cX5_ringerTold 152 = .ok (.iload_n 2, 1) := by decide +kernel
theorem dX5_ringerTold_153 : decode cX5_ringerTold 153 = .ok (.iaload, 1) := by decide +kernel
theorem dX5_ringerTold_154 : decode cX5_ringerTold 154 = .ok (.iastore, 1) := by decide +kernel
theorem dX5_ringerTold_155 : decode cX5_ringerTold 155 = .ok (.dup, 1) := by decide +kernel
theorem dX5_ringerTold_156 : decode cX5_ringerTold 156 = .ok (.bipush 7, 2) := by decide +kernel
theorem dX5_ringerTold_158 : decode cX5_ringerTold 158 = .ok (.iload 4, 2) := by decide +kernel
theorem dX5_ringerTold_160 : decode cX5_ringerTold 160 = .ok (.iastore, 1) := by decide +kernel
theorem dX5_ringerTold_161 : decode cX5_ringerTold 161 = .ok (.astore 6, 2) := by decide +kernel
theorem dX5_ringerTold_163 : decode cX5_ringerTold 163 = .ok (.aload 6, 2) := by decide +kernel
theorem dX5_ringerTold_165 : decode cX5_ringerTold 165 = .ok (.iload_n 3, 1) := by decide +kernel
theorem dX5_ringerTold_166 : decode cX5_ringerTold 166 = .ok (.iaload, 1) := by decide +kernel
theorem dX5_ringerTold_167 : decode cX5_ringerTold 167 = .ok (.ireturn, 1) := by decide +kernel
theorem dX5_told_0 : decode cX5_told 0 = .ok (.aload_n 0, 1) := by decide +kernel
theorem dX5_told_1 : decode cX5_told 1 = .ok (.iconst 0, 1) := by decide +kernel
theorem dX5_told_2 : decode cX5_told 2 = .ok (.putfield 52, 3) := by decide +kernel
theorem dX5_told_5 : decode cX5_told 5 = .ok (.aload_n 0, 1) := by decide +kernel
theorem dX5_told_6 : decode cX5_told 6 = .ok (.iload_n 1, 1) := by decide +kernel
theorem dX5_told_7 : decode cX5_told 7 = .ok (.invokevirtual 94, 3) := by decide +kernel
theorem dX5_told_10 : decode cX5_told 10 = .ok (.ifCond .eq 26, 3) := by decide +kernel
theorem dX5_told_13 : decode cX5_told 13 = .ok (.iload_n 2, 1) := by decide +kernel
theorem dX5_told_14 : decode cX5_told 14 = .ok (.iconst 0, 1) := by decide +kernel
theorem dX5_told_15 : decode cX5_told 15 = .ok (.bipush 7, 2) := by decide +kernel
theorem dX5_told_17 : decode cX5_told 17 = .ok (.invokestatic 59, 3) := by decide +kernel
theorem dX5_told_20 : decode cX5_told 20 = .ok (.ifCond .eq 16, 3) := by decide +kernel
theorem dX5_told_23 : decode cX5_told 23 = .ok (.aload_n 0, 1) := by decide +kernel
theorem dX5_told_24 : decode cX5_told 24 = .ok (.aload_n 0, 1) := by decide +kernel
theorem dX5_told_25 : decode cX5_told 25 = .ok (.getfield 45, 3) := by decide +kernel
theorem dX5_told_28 : decode cX5_told 28 = .ok (.iload_n 1, 1) := by decide +kernel
theorem dX5_told_29 : decode cX5_told 29 = .ok (.iload_n 2, 1) := by decide +kernel
theorem dX5_told_30 : decode cX5_told 30 = .ok (.invokevirtual 126, 3) := by decide +kernel
theorem dX5_told_33 : decode cX5_told 33 = .ok (.goto 8, 3) := by decide +kernel
theorem dX5_told_36 : decode cX5_told 36 = .ok (.aload_n 0, 1) := by decide +kernel
theorem dX5_told_37 : decode cX5_told 37 = .ok (.iconst 1, 1) := by decide +kernel
theorem dX5_told_38 : decode cX5_told 38 = .ok (.invokevirtual 84, 3) := by decide +kernel
theorem dX5_told_41 : decode cX5_told 41 = .ok (.ireturn, 1) := by decide +kernel
theorem dX5_bellTold_0 : decode cX5_bellTold 0 = .ok (.bipush 6, 2) := by decide +kernel
theorem dX5_bellTold_2 : decode cX5_bellTold 2 = .ok (.iload_n 1, 1) := by decide +kernel
theorem dX5_bellTold_3 : decode cX5_bellTold 3 = .ok (.imul, 1) := by decide +kernel
theorem dX5_bellTold_4 : decode cX5_bellTold 4 = .ok (.iload_n 2, 1) := by decide +kernel
theorem dX5_bellTold_5 : decode cX5_bellTold 5 = .ok (.iadd, 1) := by decide +kernel
theorem dX5_bellTold_6 : decode cX5_bellTold 6 = .ok (.istore 4, 2) := by decide +kernel
theorem dX5_bellTold_8 : decode cX5_bellTold 8 = .ok (.iload_n 3, 1) := by decide +kernel
theorem dX5_bellTold_9 : decode cX5_bellTold 9 = .ok (.ifCond .ne 13, 3) := by decide +kernel
theorem dX5_bellTold_12 : decode cX5_bellTold 12 = .ok (.aload_n 0, 1) := by decide +kernel
theorem dX5_bellTold_13 : decode cX5_bellTold 13 = .ok (.getfield 16, 3) := by decide +kernel
theorem dX5_bellTold_16 : decode cX5_bellTold 16 = .ok (.iload 4, 2) := by decide +kernel
theorem dX5_bellTold_18 : decode cX5_bellTold 18 = .ok (.iaload, 1) := by decide +kernel
theorem dX5_bellTold_19 : decode cX5_bellTold 19 = .ok (.goto 40, 3) := by decide +kernel
theorem dX5_bellTold_22 : decode cX5_bellTold 22 = .ok (.iload_n 3, 1) := by decide +kernel
theorem dX5_bellTold_23 : decode cX5_bellTold 23 = .ok (.iconst 1, 1) := by decide +kernel
theorem dX5_bellTold_24 : decode cX5_bellTold 24 = .ok (.if_icmp .ne 15, 3) := by decide +kernel
theorem dX5_bellTold_27 : decode cX5_bellTold 27 = .ok (.aload_n 0, 1) := by decide +kernel
theorem dX5_bellTold_28 : decode cX5_bellTold 28 = .ok (.getfield 45, 3) := by decide +kernel
theorem dX5_bellTold_31 : decode cX5_bellTold 31 = .ok (.iload 4, 2) := by decide +kernel
theorem dX5_bellTold_33 : decode cX5_bellTold 33 = .ok (.invokevirtual 117, 3) := by decide +kernel
theorem dX5_bellTold_36 : decode cX5_bellTold 36 = .ok (.goto 23, 3) := by decide +kernel
theorem dX5_bellTold_39 : decode cX5_bellTold 39 = .ok (.aload_n 0, 1) := by decide +kernel
theorem dX5_bellTold_40 : decode cX5_bellTold 40 = .ok (.getfield 49, 3) := by decide +kernel
theorem dX5_bellTold_43 : decode cX5_bellTold 43 = .ok (.aload_n 0, 1) := by decide +kernel
theorem dX5_bellTold_44 : decode cX5_bellTold 44 = .ok (.getfield 45, 3) := by decide +kernel
theorem dX5_bellTold_47 : decode cX5_bellTold 47 = .ok (.invokevirtual 130, 3) := by decide +kernel
theorem dX5_bellTold_50 : decode cX5_bellTold 50 = .ok (.iload_n 1, 1) := by decide +kernel
theorem dX5_bellTold_51 : decode cX5_bellTold 51 = .ok (.invokevirtual 110, 3) := by decide +kernel
theorem dX5_bellTold_54 : decode cX5_bellTold 54 = .ok (.iload 4, 2) := by decide +kernel
theorem dX5_bellTold_56 : decode cX5_bellTold 56 = .ok (.invokevirtual 117, 3) := by decide +kernel
theorem dX5_bellTold_59 : decode cX5_bellTold 59 = .ok (.ireturn, 1) := by decide +kernel
theorem dX5_bell_0 : decode cX5_bell 0 = .ok (.aload_n 0, 1) := by decide +kernel
theorem dX5_bell_1 : decode cX5_bell 1 = .ok (.iconst 0, 1) := by decide +kernel
theorem dX5_bell_2 : decode cX5_bell 2 = .ok (.putfield 52, 3) := by decide +kernel
theorem dX5_bell_5 : decode cX5_bell 5 = .ok (.iload_n 1, 1) := by decide +kernel
theorem dX5_bell_6 : decode cX5_bell 6 = .ok (.iload_n 2, 1) := by decide +kernel
theorem dX5_bell_7 : decode cX5_bell 7 = .ok (.invokestatic 106, 3) := by decide +kernel
theorem dX5_bell_10 : decode cX5_bell 10 = .ok (.ifCond .eq 22, 3) := by decide +kernel
theorem dX5_bell_13 : decode cX5_bell 13 = .ok (.iload_n 3, 1) := by decide +kernel
theorem dX5_bell_14 : decode cX5_bell 14 = .ok (.iconst 0, 1) := by decide +kernel
theorem dX5_bell_15 : decode cX5_bell 15 = .ok (.iconst 2, 1) := by decide +kernel
theorem dX5_bell_16 : decode cX5_bell 16 = .ok (.invokestatic 59, 3) := by decide +kernel
theorem dX5_bell_19 : decode cX5_bell 19 = .ok (.ifCond .eq 13, 3) := by decide +kernel
theorem dX5_bell_22 : decode cX5_bell 22 = .ok (.aload_n 0, 1) := by decide +kernel
theorem dX5_bell_23 : decode cX5_bell 23 = .ok (.iload_n 1, 1) := by decide +kernel
theorem dX5_bell_24 : decode cX5_bell 24 = .ok (.iload_n 2, 1) := by decide +kernel
theorem dX5_bell_25 : decode cX5_bell 25 = .ok (.iload_n 3, 1) := by decide +kernel
theorem dX5_bell_26 : decode cX5_bell 26 = .ok (.invokevirtual 134, 3) := by decide +kernel
theorem dX5_bell_29 : decode cX5_bell 29 = .ok (.goto 8, 3) := by decide +kernel
theorem dX5_bell_32 : decode cX5_bell 32 = .ok (.aload_n 0, 1) := by decide +kernel
theorem dX5_bell_33 : decode cX5_bell 33 = .ok (.iconst 1, 1) := by decide +kernel
theorem dX5_bell_34 : decode cX5_bell 34 = .ok (.invokevirtual 84, 3) := by decide +kernel
theorem dX5_bell_37 : decode cX5_bell 37 = .ok (.ireturn, 1) := by decide +kernel
theorem dX5_method_0 : decode cX5_method 0 = .ok (.aload_n 0, 1) := by decide +kernel
theorem dX5_method_1 : decode cX5_method 1 = .ok (.iconst 0, 1) := by decide +kernel
theorem dX5_method_2 : decode cX5_method 2 = .ok (.putfield 52, 3) := by decide +kernel
theorem dX5_method_5 : decode cX5_method 5 = .ok (.aload_n 0, 1) := by decide +kernel
theorem dX5_method_6 : decode cX5_method 6 = .ok (.getfield 63, 3) := by decide +kernel
theorem dX5_method_9 : decode cX5_method 9 = .ok (.iconst 5, 1) := by decide +kernel
theorem dX5_method_10 : decode cX5_method 10 = .ok (.if_icmp .ne 9, 3) := by decide +kernel
theorem dX5_method_13 : decode cX5_method 13 = .ok (.aload_n 0, 1) := by decide +kernel
theorem dX5_method_14 : decode cX5_method 14 = .ok (.iconst 1, 1) := by decide +kernel
theorem dX5_method_15 : decode cX5_method 15 = .ok (.invokevirtual 84, 3) := by decide +kernel
theorem dX5_method_18 : decode cX5_method 18 = .ok (.ireturn, 1) := by decide +kernel
theorem dX5_method_19 : decode cX5_method 19 = .ok (.aload_n 0, 1) := by decide +kernel
theorem dX5_method_20 : decode cX5_method 20 = .ok (.dup, 1) := by decide +kernel
theorem dX5_method_21 : decode cX5_method 21 = .ok (.getfield 63, 3) := by decide +kernel
theorem dX5_method_24 : decode cX5_method 24 = .ok (.iconst 1, 1) := by decide +kernel
theorem dX5_method_25 : decode cX5_method 25 = .ok (.iadd, 1) := by decide +kernel
theorem dX5_method_26 : decode cX5_method 26 = .ok (.putfield 63, 3) := by decide +kernel
theorem dX5_method_29 : decode cX5_method 29 = .ok (.aload_n 0, 1) := by decide +kernel
theorem dX5_method_30 : decode cX5_method 30 = .ok (.getfield 63, 3) := by decide +kernel
theorem dX5_method_33 : decode cX5_method 33 = .ok (.iconst 1, 1) := by decide +kernel
theorem dX5_method_34 : decode cX5_method 34 = .ok (.isub, 1) := by decide +kernel
theorem dX5_method_35 : decode cX5_method 35 = .ok (.ireturn, 1) := by decide +kernel
theorem dX5_add_0 : decode cX5_add 0 = .ok (.aload_n 0, 1) := by decide +kernel
theorem dX5_add_1 : decode cX5_add 1 = .ok (.iconst 0, 1) := by decide +kernel
theorem dX5_add_2 : decode cX5_add 2 = .ok (.putfield 52, 3) := by decide +kernel
theorem dX5_add_5 : decode cX5_add 5 = .ok (.aload_n 0, 1) := by decide +kernel
theorem dX5_add_6 : decode cX5_add 6 = .ok (.iload_n 1, 1) := by decide +kernel
theorem dX5_add_7 : decode cX5_add 7 = .ok (.invokevirtual 138, 3) := by decide +kernel
theorem dX5_add_10 : decode cX5_add 10 = .ok (.ifCond .ne 9, 3) := by decide +kernel
theorem dX5_add_13 : decode cX5_add 13 = .ok (.aload_n 0, 1) := by decide +kernel
theorem dX5_add_14 : decode cX5_add 14 = .ok (.iconst 1, 1) := by decide +kernel
theorem dX5_add_15 : decode cX5_add 15 = .ok (.invokevirtual 84, 3) := by decide +kernel
theorem dX5_add_18 : decode cX5_add 18 = .ok (.ireturn, 1) := by decide +kernel
theorem dX5_add_19 : decode cX5_add 19 = .ok (.iload_n 2, 1) := by decide +kernel
theorem dX5_add_20 : decode cX5_add 20 = .ok (.iconst 0, 1) := by decide +kernel
theorem dX5_add_21 : decode cX5_add 21 = .ok (.bipush 31, 2) := by decide +kernel
theorem dX5_add_23 : decode cX5_add 23 = .ok (.invokestatic 59, 3) := by decide +kernel
theorem dX5_add_26 : decode cX5_add 26 = .ok (.ifCond .eq 11, 3) := by decide +kernel
theorem dX5_add_29 : decode cX5_add 29 = .ok (.iload_n 2, 1) := by decide +kernel
theorem dX5_add_30 : decode cX5_add 30 = .ok (.iload_n 2, 1) := by decide +kernel
theorem dX5_add_31 : decode cX5_add 31 = .ok (.iconst 1, 1) := by decide +kernel
theorem dX5_add_32 : decode cX5_add 32 = .ok (.ishl, 1) := by decide +kernel
theorem dX5_add_33 : decode cX5_add 33 = .ok (.iand, 1) := by decide +kernel
theorem dX5_add_34 : decode cX5_add 34 = .ok (.ifCond .eq 9, 3) := by decide +kernel
theorem dX5_add_37 : decode cX5_add 37 = .ok (.aload_n 0, 1) := by decide +kernel
theorem dX5_add_38 : decode cX5_add 38 = .ok (.iconst 2, 1) := by decide +kernel
theorem dX5_add_39 : decode cX5_add 39 = .ok (.invokevirtual 84, 3) := by decide +kernel
theorem dX5_add_42 : decode cX5_add 42 = .ok (.ireturn, 1) := by decide +kernel
theorem dX5_add_43 : decode cX5_add 43 = .ok (.aload_n 0, 1) := by decide +kernel
theorem dX5_add_44 : decode cX5_add 44 = .ok (.getfield 19, 3) := by decide +kernel
theorem dX5_add_47 : decode cX5_add 47 = .ok (.iload_n 1, 1) := by decide +kernel
theorem dX5_add_48 : decode cX5_add 48 = .ok (.iaload, 1) := by decide +kernel
theorem dX5_add_49 : decode cX5_add 49 = .ok (.bipush 12, 2) := by decide +kernel
theorem dX5_add_51 : decode cX5_add 51 = .ok (.if_icmp .ne 9, 3) := by decide +kernel
theorem dX5_add_54 : decode cX5_add 54 = .ok (.aload_n 0, 1) := by decide +kernel
theorem dX5_add_55 : decode cX5_add 55 = .ok (.iconst 3, 1) := by decide +kernel
theorem dX5_add_56 : decode cX5_add 56 = .ok (.invokevirtual 84, 3) := by decide +kernel
theorem dX5_add_59 : decode cX5_add 59 = .ok (.ireturn, 1) := by decide +kernel
theorem dX5_add_60 : decode cX5_add 60 = .ok (.aload_n 0, 1) := by decide +kernel
theorem dX5_add_61 : decode cX5_add 61 = .ok (.getfield 22, 3) := by decide +kernel
theorem dX5_add_64 : decode cX5_add 64 = .ok (.bipush 12, 2) := by decide +kernel
theorem dX5_add_66 : decode cX5_add 66 = .ok (.iload_n 1, 1) := by decide +kernel
theorem dX5_add_67 : decode cX5_add 67 = .ok (.imul, 1) := by decide +kernel
theorem dX5_add_68 : decode cX5_add 68 = .ok (.aload_n 0, 1) := by decide +kernel
theorem dX5_add_69 : decode cX5_add 69 = .ok (.getfield 19, 3) := by decide +kernel
theorem dX5_add_72 : decode cX5_add 72 = .ok (.iload_n 1, 1) := by decide +kernel
theorem dX5_add_73 : decode cX5_add 73 = .ok (.iaload, 1) := by decide +kernel
theorem dX5_add_74 : decode cX5_add 74 = .ok (.iadd, 1) := by decide +kernel
theorem dX5_add_75 : decode cX5_add 75 = .ok (.iload_n 2, 1) := by decide +kernel
theorem dX5_add_76 : decode cX5_add 76 = .ok (.iastore, 1) := by decide +kernel
theorem dX5_add_77 : decode cX5_add 77 = .ok (.aload_n 0, 1) := by decide +kernel
theorem dX5_add_78 : decode cX5_add 78 = .ok (.getfield 19, 3) := by decide +kernel
theorem dX5_add_81 : decode cX5_add 81 = .ok (.iload_n 1, 1) := by decide +kernel
theorem dX5_add_82 : decode cX5_add 82 = .ok (.dup2, 1) := by decide +kernel
theorem dX5_add_83 : decode cX5_add 83 = .ok (.iaload, 1) := by decide +kernel
theorem dX5_add_84 : decode cX5_add 84 = .ok (.iconst 1, 1) := by decide +kernel
theorem dX5_add_85 : decode cX5_add 85 = .ok (.iadd, 1) := by decide +kernel
theorem dX5_add_86 : decode cX5_add 86 = .ok (.iastore, 1) := by decide +kernel
theorem dX5_add_87 : decode cX5_add 87 = .ok (.aload_n 0, 1) := by decide +kernel
theorem dX5_add_88 : decode cX5_add 88 = .ok (.getfield 19, 3) := by decide +kernel
theorem dX5_add_91 : decode cX5_add 91 = .ok (.iload_n 1, 1) := by decide +kernel
theorem dX5_add_92 : decode cX5_add 92 = .ok (.iaload, 1) := by decide +kernel
theorem dX5_add_93 : decode cX5_add 93 = .ok (.ireturn, 1) := by decide +kernel
theorem dX5_methodTold_0 : decode cX5_methodTold 0 = .ok (.iconst 0, 1) := by decide +kernel
theorem dX5_methodTold_1 : decode cX5_methodTold 1 = .ok (.istore_n 3, 1) := by decide +kernel
theorem dX5_methodTold_2 : decode cX5_methodTold 2 = .ok (.aload_n 0, 1) := by decide +kernel
theorem dX5_methodTold_3 : decode cX5_methodTold 3 = .ok (.iload_n 1, 1) := by decide +kernel
theorem dX5_methodTold_4 : decode cX5_methodTold 4 = .ok (.iconst 1, 1) := by decide +kernel
theorem dX5_methodTold_5 : decode cX5_methodTold 5 = .ok (.invokevirtual 81, 3) := by decide +kernel
theorem dX5_methodTold_8 : decode cX5_methodTold 8 = .ok (.aload_n 0, 1) := by decide +kernel
theorem dX5_methodTold_9 : decode cX5_methodTold 9 = .ok (.getfield 25, 3) := by decide +kernel
theorem dX5_methodTold_12 : decode cX5_methodTold 12 = .ok (.aload_n 0, 1) := by decide +kernel
theorem dX5_methodTold_13 : decode cX5_methodTold 13 = .ok (.getfield 66, 3) := by decide +kernel
theorem dX5_methodTold_16 : decode cX5_methodTold 16 = .ok (.iaload, 1) := by decide +kernel
theorem dX5_methodTold_17 : decode cX5_methodTold 17 = .ok (.istore 4, 2) := by decide +kernel
theorem dX5_methodTold_19 : decode cX5_methodTold 19 = .ok (.iconst 5, 1) := by decide +kernel
theorem dX5_methodTold_20 : decode cX5_methodTold 20 = .ok (.istore 5, 2) := by decide +kernel
theorem dX5_methodTold_22 : decode cX5_methodTold 22 = .ok (.iload 5, 2) := by decide +kernel
theorem dX5_methodTold_24 : decode cX5_methodTold 24 = .ok (.ifCond .lt 34, 3) := by decide +kernel
theorem dX5_methodTold_27 : decode cX5_methodTold 27 = .ok (.iload_n 3, 1) := by decide +kernel
theorem dX5_methodTold_28 : decode cX5_methodTold 28 = .ok (.iload 4, 2) := by decide +kernel
theorem dX5_methodTold_30 : decode cX5_methodTold 30 = .ok (.bipush 6, 2) := by decide +kernel
theorem dX5_methodTold_32 : decode cX5_methodTold 32 = .ok (.irem, 1) := by decide +kernel
theorem dX5_methodTold_33 : decode cX5_methodTold 33 = .ok (.iload 5, 2) := by decide +kernel
theorem dX5_methodTold_35 : decode cX5_methodTold 35 = .ok (.if_icmp .ne 7, 3) := by decide +kernel
theorem dX5_methodTold_38 : decode cX5_methodTold 38 = .ok (.iconst 1, 1) := by decide +kernel
theorem dX5_methodTold_39 : decode cX5_methodTold 39 = .ok (.goto 4, 3) := by decide +kernel
theorem dX5_methodTold_42 : decode cX5_methodTold 42 = .ok (.iconst 0, 1) := by decide +kernel
theorem dX5_methodTold_43 : decode cX5_methodTold 43 = .ok (.iadd, 1) := by decide +kernel
theorem dX5_methodTold_44 : decode cX5_methodTold 44 = .ok (.istore_n 3, 1) := by decide +kernel
theorem dX5_methodTold_45 : decode cX5_methodTold 45 = .ok (.iload 4, 2) := by decide +kernel
theorem dX5_methodTold_47 : decode cX5_methodTold 47 = .ok (.bipush 6, 2) := by decide +kernel
theorem dX5_methodTold_49 : decode cX5_methodTold 49 = .ok (.idiv, 1) := by decide +kernel
theorem dX5_methodTold_50 : decode cX5_methodTold 50 = .ok (.istore 4, 2) := by decide +kernel
theorem dX5_methodTold_52 : decode cX5_methodTold 52 = .ok (.iinc 5 (-1), 3) := by decide +kernel
theorem dX5_methodTold_55 : decode cX5_methodTold 55 = .ok (.goto (-33), 3) := by decide +kernel
theorem dX5_methodTold_58 : decode cX5_methodTold 58 = .ok (.aload_n 0, 1) := by decide +kernel
theorem dX5_methodTold_59 : decode cX5_methodTold 59 = .ok (.iload_n 1, 1) := by decide +kernel
theorem dX5_methodTold_60 : decode cX5_methodTold 60 = .ok (.invokevirtual 141, 3) := by decide +kernel
theorem dX5_methodTold_63 : decode cX5_methodTold 63 = .ok (.istore 5, 2) := by decide +kernel
theorem dX5_methodTold_65 : decode cX5_methodTold 65 = .ok (.iconst 0, 1) := by decide +kernel
theorem dX5_methodTold_66 : decode cX5_methodTold 66 = .ok (.istore 6, 2) := by decide +kernel
theorem dX5_methodTold_68 : decode cX5_methodTold 68 = .ok (.iconst 0, 1) := by decide +kernel
theorem dX5_methodTold_69 : decode cX5_methodTold 69 = .ok (.istore 7, 2) := by decide +kernel
theorem dX5_methodTold_71 : decode cX5_methodTold 71 = .ok (.iconst 0, 1) := by decide +kernel
theorem dX5_methodTold_72 : decode cX5_methodTold 72 = .ok (.istore 8, 2) := by decide +kernel
theorem dX5_methodTold_74 : decode cX5_methodTold 74 = .ok (.iload 8, 2) := by decide +kernel
theorem dX5_methodTold_76 : decode cX5_methodTold 76 = .ok (.aload_n 0, 1) := by decide +kernel
theorem dX5_methodTold_77 : decode cX5_methodTold 77 = .ok (.getfield 66, 3) := by decide +kernel
theorem dX5_methodTold_80 : decode cX5_methodTold 80 = .ok (.if_icmp .gt 28, 3) := by decide +kernel
theorem dX5_methodTold_83 : decode cX5_methodTold 83 = .ok (.iload 6, 2) := by decide +kernel
theorem dX5_methodTold_85 : decode cX5_methodTold 85 = .ok (.aload_n 0, 1) := by decide +kernel
theorem dX5_methodTold_86 : decode cX5_methodTold 86 = .ok (.iload 8, 2) := by decide +kernel
theorem dX5_methodTold_88 : decode cX5_methodTold 88 = .ok (.invokevirtual 77, 3) := by decide +kernel
theorem dX5_methodTold_91 : decode cX5_methodTold 91 = .ok (.ifCond .eq 7, 3) := by decide +kernel
theorem dX5_methodTold_94 : decode cX5_methodTold 94 = .ok (.iconst 1, 1) := by decide +kernel
theorem dX5_methodTold_95 : decode cX5_methodTold 95 = .ok (.goto 4, 3) := by decide +kernel
theorem dX5_methodTold_98 : decode cX5_methodTold 98 = .ok (.iconst 0, 1) := by decide +kernel
theorem dX5_methodTold_99 : decode cX5_methodTold 99 = .ok (.iadd, 1) := by decide +kernel
theorem dX5_methodTold_100 : decode cX5_methodTold 100 = .ok (.istore 6, 2) := by decide +kernel
theorem dX5_methodTold_102 : decode cX5_methodTold 102 = .ok (.iinc 8 1, 3) := by decide +kernel
theorem dX5_methodTold_105 : decode cX5_methodTold 105 = .ok (.goto (-31), 3) := by decide +kernel
theorem dX5_methodTold_108 : decode cX5_methodTold 108 = .ok (.iconst 0, 1) := by decide +kernel
theorem dX5_methodTold_109 : decode cX5_methodTold 109 = .ok (.istore 8, 2) := by decide +kernel
theorem dX5_methodTold_111 : decode cX5_methodTold 111 = .ok (.iload 8, 2) := by decide +kernel
theorem dX5_methodTold_113 : decode cX5_methodTold 113 = .ok (.bipush 6, 2) := by decide +kernel
theorem dX5_methodTold_115 : decode cX5_methodTold 115 = .ok (.if_icmp .ge 20, 3) := by decide +kernel
theorem dX5_methodTold_118 : decode cX5_methodTold 118 = .ok (.iload 7, 2) := by decide +kernel
theorem dX5_methodTold_120 : decode cX5_methodTold 120 = .ok (.aload_n 0, 1) := by decide +kernel
theorem dX5_methodTold_121 : decode cX5_methodTold 121 = .ok (.iload 8, 2) := by decide +kernel
theorem dX5_methodTold_123 : decode cX5_methodTold 123 = .ok (.invokevirtual 144, 3) := by decide +kernel
theorem dX5_methodTold_126 : decode cX5_methodTold 126 = .ok (.iadd, 1) := by decide +kernel
theorem dX5_methodTold_127 : decode cX5_methodTold 127 = .ok (.istore 7, 2) := by decide +kernel
theorem dX5_methodTold_129 : decode cX5_methodTold 129 = .ok (.iinc 8 1, 3) := by decide +kernel
theorem dX5_methodTold_132 : decode cX5_methodTold 132 = .ok (.goto (-21), 3) := by decide +kernel
theorem dX5_methodTold_135 : decode cX5_methodTold 135 = .ok (.bipush 6, 2) := by decide +kernel
theorem dX5_methodTold_137 : decode cX5_methodTold 137 = .ok (.newarray .int, 2) := by decide +kernel
theorem dX5_methodTold_139 : decode cX5_methodTold 139 = .ok (.dup, 1) := by decide +kernel
theorem dX5_methodTold_140 : decode cX5_methodTold 140 = .ok (.iconst 0, 1) := by decide +kernel
theorem dX5_methodTold_141 : decode cX5_methodTold 141 = .ok (.aload_n 0, 1) := by decide +kernel
theorem dX5_methodTold_142 : decode cX5_methodTold 142 = .ok (.getfield 19, 3) := by decide +kernel
theorem dX5_methodTold_145 : decode cX5_methodTold 145 = .ok (.iload_n 1, 1) := by decide +kernel
theorem dX5_methodTold_146 : decode cX5_methodTold 146 = .ok (.iaload, 1) := by decide +kernel
theorem dX5_methodTold_147 : decode cX5_methodTold 147 = .ok (.iastore, 1) := by decide +kernel
theorem dX5_methodTold_148 : decode cX5_methodTold 148 = .ok (.dup, 1) := by decide +kernel
theorem dX5_methodTold_149 : decode cX5_methodTold 149 = .ok (.iconst 1, 1) := by decide +kernel
theorem dX5_methodTold_150 : decode cX5_methodTold 150 = .ok (.iload 5, 2) := by decide +kernel
theorem dX5_methodTold_152 : decode cX5_methodTold 152 = .ok (.iastore, 1) := by decide +kernel
theorem dX5_methodTold_153 : decode cX5_methodTold 153 = .ok (.dup, 1) := by decide +kernel
theorem dX5_methodTold_154 : decode cX5_methodTold 154 = .ok (.iconst 2, 1) := by decide +kernel
theorem dX5_methodTold_155 : decode cX5_methodTold 155 = .ok (.iload 6, 2) := by decide +kernel
theorem dX5_methodTold_157 : decode cX5_methodTold 157 = .ok (.iastore, 1) := by decide +kernel
theorem dX5_methodTold_158 : decode cX5_methodTold 158 = .ok (.dup, 1) := by decide +kernel
theorem dX5_methodTold_159 : decode cX5_methodTold 159 = .ok (.iconst 3, 1) := by decide +kernel
theorem dX5_methodTold_160 : decode cX5_methodTold 160 = .ok (.aload_n 0, 1) := by decide +kernel
theorem dX5_methodTold_161 : decode cX5_methodTold 161 = .ok (.invokevirtual 147, 3) := by decide +kernel
theorem dX5_methodTold_164 : decode cX5_methodTold 164 = .ok (.iastore, 1) := by decide +kernel
theorem dX5_methodTold_165 : decode cX5_methodTold 165 = .ok (.dup, 1) := by decide +kernel
theorem dX5_methodTold_166 : decode cX5_methodTold 166 = .ok (.iconst 4, 1) := by decide +kernel
theorem dX5_methodTold_167 : decode cX5_methodTold 167 = .ok (.iload 7, 2) := by decide +kernel
theorem dX5_methodTold_169 : decode cX5_methodTold 169 = .ok (.iastore, 1) := by decide +kernel
theorem dX5_methodTold_170 : decode cX5_methodTold 170 = .ok (.dup, 1) := by decide +kernel
theorem dX5_methodTold_171 : decode cX5_methodTold 171 = .ok (.iconst 5, 1) := by decide +kernel
theorem dX5_methodTold_172 : decode cX5_methodTold 172 = .ok (.iload_n 3, 1) := by decide +kernel
theorem dX5_methodTold_173 : decode cX5_methodTold 173 = .ok (.iastore, 1) := by decide +kernel
theorem dX5_methodTold_174 : decode cX5_methodTold 174 = .ok (.astore 8, 2) := by decide +kernel
theorem dX5_methodTold_176 : decode cX5_methodTold 176 = .ok (.aload 8, 2) := by decide +kernel
theorem dX5_methodTold_178 : decode cX5_methodTold 178 = .ok (.iload_n 2, 1) := by decide +kernel
theorem dX5_methodTold_179 : decode cX5_methodTold 179 = .ok (.iaload, 1) := by decide +kernel
theorem dX5_methodTold_180 : decode cX5_methodTold 180 = .ok (.ireturn, 1) := by decide +kernel
theorem dX5_about_0 : decode cX5_about 0 = .ok (.aload_n 0, 1) := by decide +kernel
theorem dX5_about_1 : decode cX5_about 1 = .ok (.iconst 0, 1) := by decide +kernel
theorem dX5_about_2 : decode cX5_about 2 = .ok (.putfield 52, 3) := by decide +kernel
theorem dX5_about_5 : decode cX5_about 5 = .ok (.aload_n 0, 1) := by decide +kernel
theorem dX5_about_6 : decode cX5_about 6 = .ok (.iload_n 1, 1) := by decide +kernel
theorem dX5_about_7 : decode cX5_about 7 = .ok (.invokevirtual 138, 3) := by decide +kernel
theorem dX5_about_10 : decode cX5_about 10 = .ok (.ifCond .eq 21, 3) := by decide +kernel
theorem dX5_about_13 : decode cX5_about 13 = .ok (.iload_n 2, 1) := by decide +kernel
theorem dX5_about_14 : decode cX5_about 14 = .ok (.iconst 0, 1) := by decide +kernel
theorem dX5_about_15 : decode cX5_about 15 = .ok (.iconst 5, 1) := by decide +kernel
theorem dX5_about_16 : decode cX5_about 16 = .ok (.invokestatic 59, 3) := by decide +kernel
theorem dX5_about_19 : decode cX5_about 19 = .ok (.ifCond .eq 12, 3) := by decide +kernel
theorem dX5_about_22 : decode cX5_about 22 = .ok (.aload_n 0, 1) := by decide +kernel
theorem dX5_about_23 : decode cX5_about 23 = .ok (.iload_n 1, 1) := by decide +kernel
theorem dX5_about_24 : decode cX5_about 24 = .ok (.iload_n 2, 1) := by decide +kernel
theorem dX5_about_25 : decode cX5_about 25 = .ok (.invokevirtual 150, 3) := by decide +kernel
theorem dX5_about_28 : decode cX5_about 28 = .ok (.goto 8, 3) := by decide +kernel
theorem dX5_about_31 : decode cX5_about 31 = .ok (.aload_n 0, 1) := by decide +kernel
theorem dX5_about_32 : decode cX5_about 32 = .ok (.iconst 1, 1) := by decide +kernel
theorem dX5_about_33 : decode cX5_about 33 = .ok (.invokevirtual 84, 3) := by decide +kernel
theorem dX5_about_36 : decode cX5_about 36 = .ok (.ireturn, 1) := by decide +kernel
theorem dX5_row_0 : decode cX5_row 0 = .ok (.aload_n 0, 1) := by decide +kernel
theorem dX5_row_1 : decode cX5_row 1 = .ok (.iconst 0, 1) := by decide +kernel
theorem dX5_row_2 : decode cX5_row 2 = .ok (.putfield 52, 3) := by decide +kernel
theorem dX5_row_5 : decode cX5_row 5 = .ok (.aload_n 0, 1) := by decide +kernel
theorem dX5_row_6 : decode cX5_row 6 = .ok (.iload_n 1, 1) := by decide +kernel
theorem dX5_row_7 : decode cX5_row 7 = .ok (.invokevirtual 138, 3) := by decide +kernel
theorem dX5_row_10 : decode cX5_row 10 = .ok (.ifCond .ne 9, 3) := by decide +kernel
theorem dX5_row_13 : decode cX5_row 13 = .ok (.aload_n 0, 1) := by decide +kernel
theorem dX5_row_14 : decode cX5_row 14 = .ok (.iconst 1, 1) := by decide +kernel
theorem dX5_row_15 : decode cX5_row 15 = .ok (.invokevirtual 84, 3) := by decide +kernel
theorem dX5_row_18 : decode cX5_row 18 = .ok (.ireturn, 1) := by decide +kernel
theorem dX5_row_19 : decode cX5_row 19 = .ok (.iload_n 2, 1) := by decide +kernel
theorem dX5_row_20 : decode cX5_row 20 = .ok (.iconst 0, 1) := by decide +kernel
theorem dX5_row_21 : decode cX5_row 21 = .ok (.sipush 200, 3) := by decide +kernel
theorem dX5_row_24 : decode cX5_row 24 = .ok (.invokestatic 59, 3) := by decide +kernel
theorem dX5_row_27 : decode cX5_row 27 = .ok (.ifCond .ne 9, 3) := by decide +kernel
theorem dX5_row_30 : decode cX5_row 30 = .ok (.aload_n 0, 1) := by decide +kernel
theorem dX5_row_31 : decode cX5_row 31 = .ok (.iconst 2, 1) := by decide +kernel
theorem dX5_row_32 : decode cX5_row 32 = .ok (.invokevirtual 84, 3) := by decide +kernel
theorem dX5_row_35 : decode cX5_row 35 = .ok (.ireturn, 1) := by decide +kernel
theorem dX5_row_36 : decode cX5_row 36 = .ok (.aload_n 0, 1) := by decide +kernel
theorem dX5_row_37 : decode cX5_row 37 = .ok (.getfield 19, 3) := by decide +kernel
theorem dX5_row_40 : decode cX5_row 40 = .ok (.iload_n 1, 1) := by decide +kernel
theorem dX5_row_41 : decode cX5_row 41 = .ok (.iaload, 1) := by decide +kernel
theorem dX5_row_42 : decode cX5_row 42 = .ok (.ifCond .ne 9, 3) := by decide +kernel
theorem dX5_row_45 : decode cX5_row 45 = .ok (.aload_n 0, 1) := by decide +kernel
theorem dX5_row_46 : decode cX5_row 46 = .ok (.iconst 3, 1) := by decide +kernel
theorem dX5_row_47 : decode cX5_row 47 = .ok (.invokevirtual 84, 3) := by decide +kernel
theorem dX5_row_50 : decode cX5_row 50 = .ok (.ireturn, 1) := by decide +kernel
theorem dX5_row_51 : decode cX5_row 51 = .ok (.aload_n 0, 1) := by decide +kernel
theorem dX5_row_52 : decode cX5_row 52 = .ok (.iload_n 1, 1) := by decide +kernel
theorem dX5_row_53 : decode cX5_row 53 = .ok (.iload_n 2, 1) := by decide +kernel
theorem dX5_row_54 : decode cX5_row 54 = .ok (.invokevirtual 73, 3) := by decide +kernel
theorem dX5_row_57 : decode cX5_row 57 = .ok (.aload_n 0, 1) := by decide +kernel
theorem dX5_row_58 : decode cX5_row 58 = .ok (.getfield 25, 3) := by decide +kernel
theorem dX5_row_61 : decode cX5_row 61 = .ok (.iload_n 2, 1) := by decide +kernel
theorem dX5_row_62 : decode cX5_row 62 = .ok (.iaload, 1) := by decide +kernel
theorem dX5_row_63 : decode cX5_row 63 = .ok (.ireturn, 1) := by decide +kernel
theorem dX5_dodges_0 : decode cX5_dodges 0 = .ok (.aload_n 0, 1) := by decide +kernel
theorem dX5_dodges_1 : decode cX5_dodges 1 = .ok (.iconst 0, 1) := by decide +kernel
theorem dX5_dodges_2 : decode cX5_dodges 2 = .ok (.putfield 52, 3) := by decide +kernel
theorem dX5_dodges_5 : decode cX5_dodges 5 = .ok (.aload_n 0, 1) := by decide +kernel
theorem dX5_dodges_6 : decode cX5_dodges 6 = .ok (.iload_n 1, 1) := by decide +kernel
theorem dX5_dodges_7 : decode cX5_dodges 7 = .ok (.invokevirtual 138, 3) := by decide +kernel
theorem dX5_dodges_10 : decode cX5_dodges 10 = .ok (.ifCond .eq 12, 3) := by decide +kernel
theorem dX5_dodges_13 : decode cX5_dodges 13 = .ok (.iload_n 2, 1) := by decide +kernel
theorem dX5_dodges_14 : decode cX5_dodges 14 = .ok (.iconst 0, 1) := by decide +kernel
theorem dX5_dodges_15 : decode cX5_dodges 15 = .ok (.iconst 5, 1) := by decide +kernel
theorem dX5_dodges_16 : decode cX5_dodges 16 = .ok (.invokestatic 59, 3) := by decide +kernel
theorem dX5_dodges_19 : decode cX5_dodges 19 = .ok (.ifCond .ne 9, 3) := by decide +kernel
theorem dX5_dodges_22 : decode cX5_dodges 22 = .ok (.aload_n 0, 1) := by decide +kernel
theorem dX5_dodges_23 : decode cX5_dodges 23 = .ok (.iconst 1, 1) := by decide +kernel
theorem dX5_dodges_24 : decode cX5_dodges 24 = .ok (.invokevirtual 84, 3) := by decide +kernel
theorem dX5_dodges_27 : decode cX5_dodges 27 = .ok (.ireturn, 1) := by decide +kernel
theorem dX5_dodges_28 : decode cX5_dodges 28 = .ok (.aload_n 0, 1) := by decide +kernel
theorem dX5_dodges_29 : decode cX5_dodges 29 = .ok (.iload_n 1, 1) := by decide +kernel
theorem dX5_dodges_30 : decode cX5_dodges 30 = .ok (.invokevirtual 141, 3) := by decide +kernel
theorem dX5_dodges_33 : decode cX5_dodges 33 = .ok (.pop, 1) := by decide +kernel
theorem dX5_dodges_34 : decode cX5_dodges 34 = .ok (.aload_n 0, 1) := by decide +kernel
theorem dX5_dodges_35 : decode cX5_dodges 35 = .ok (.iload_n 2, 1) := by decide +kernel
theorem dX5_dodges_36 : decode cX5_dodges 36 = .ok (.invokevirtual 144, 3) := by decide +kernel
theorem dX5_dodges_39 : decode cX5_dodges 39 = .ok (.ireturn, 1) := by decide +kernel
theorem dX5_ring_0 : decode cX5_ring 0 = .ok (.aload_n 0, 1) := by decide +kernel
theorem dX5_ring_1 : decode cX5_ring 1 = .ok (.iconst 0, 1) := by decide +kernel
theorem dX5_ring_2 : decode cX5_ring 2 = .ok (.putfield 52, 3) := by decide +kernel
theorem dX5_ring_5 : decode cX5_ring 5 = .ok (.iload_n 1, 1) := by decide +kernel
theorem dX5_ring_6 : decode cX5_ring 6 = .ok (.iconst 0, 1) := by decide +kernel
theorem dX5_ring_7 : decode cX5_ring 7 = .ok (.iconst 2, 1) := by decide +kernel
theorem dX5_ring_8 : decode cX5_ring 8 = .ok (.invokestatic 59, 3) := by decide +kernel
theorem dX5_ring_11 : decode cX5_ring 11 = .ok (.ifCond .eq 11, 3) := by decide +kernel
theorem dX5_ring_14 : decode cX5_ring 14 = .ok (.aload_n 0, 1) := by decide +kernel
theorem dX5_ring_15 : decode cX5_ring 15 = .ok (.iload_n 2, 1) := by decide +kernel
theorem dX5_ring_16 : decode cX5_ring 16 = .ok (.invokevirtual 138, 3) := by decide +kernel
theorem dX5_ring_19 : decode cX5_ring 19 = .ok (.ifCond .ne 9, 3) := by decide +kernel
theorem dX5_ring_22 : decode cX5_ring 22 = .ok (.aload_n 0, 1) := by decide +kernel
theorem dX5_ring_23 : decode cX5_ring 23 = .ok (.iconst 1, 1) := by decide +kernel
theorem dX5_ring_24 : decode cX5_ring 24 = .ok (.invokevirtual 84, 3) := by decide +kernel
theorem dX5_ring_27 : decode cX5_ring 27 = .ok (.ireturn, 1) := by decide +kernel
theorem dX5_ring_28 : decode cX5_ring 28 = .ok (.iload_n 3, 1) := by decide +kernel
theorem dX5_ring_29 : decode cX5_ring 29 = .ok (.iconst 1, 1) := by decide +kernel
theorem dX5_ring_30 : decode cX5_ring 30 = .ok (.bipush 12, 2) := by decide +kernel
theorem dX5_ring_32 : decode cX5_ring 32 = .ok (.invokestatic 59, 3) := by decide +kernel
theorem dX5_ring_35 : decode cX5_ring 35 = .ok (.ifCond .ne 9, 3) := by decide +kernel
theorem dX5_ring_38 : decode cX5_ring 38 = .ok (.aload_n 0, 1) := by decide +kernel
theorem dX5_ring_39 : decode cX5_ring 39 = .ok (.iconst 2, 1) := by decide +kernel
theorem dX5_ring_40 : decode cX5_ring 40 = .ok (.invokevirtual 84, 3) := by decide +kernel
theorem dX5_ring_43 : decode cX5_ring 43 = .ok (.ireturn, 1) := by decide +kernel
theorem dX5_ring_44 : decode cX5_ring 44 = .ok (.aload_n 0, 1) := by decide +kernel
theorem dX5_ring_45 : decode cX5_ring 45 = .ok (.getfield 45, 3) := by decide +kernel
theorem dX5_ring_48 : decode cX5_ring 48 = .ok (.iload_n 1, 1) := by decide +kernel
theorem dX5_ring_49 : decode cX5_ring 49 = .ok (.iload_n 2, 1) := by decide +kernel
theorem dX5_ring_50 : decode cX5_ring 50 = .ok (.invokevirtual 153, 3) := by decide +kernel
theorem dX5_ring_53 : decode cX5_ring 53 = .ok (.ifCond .ne 9, 3) := by decide +kernel
theorem dX5_ring_56 : decode cX5_ring 56 = .ok (.aload_n 0, 1) := by decide +kernel
theorem dX5_ring_57 : decode cX5_ring 57 = .ok (.iconst 3, 1) := by decide +kernel
theorem dX5_ring_58 : decode cX5_ring 58 = .ok (.invokevirtual 84, 3) := by decide +kernel
theorem dX5_ring_61 : decode cX5_ring 61 = .ok (.ireturn, 1) := by decide +kernel
theorem dX5_ring_62 : decode cX5_ring 62 = .ok (.aload_n 0, 1) := by decide +kernel
theorem dX5_ring_63 : decode cX5_ring 63 = .ok (.getfield 45, 3) := by decide +kernel
theorem dX5_ring_66 : decode cX5_ring 66 = .ok (.iload_n 1, 1) := by decide +kernel
theorem dX5_ring_67 : decode cX5_ring 67 = .ok (.iload_n 2, 1) := by decide +kernel
theorem dX5_ring_68 : decode cX5_ring 68 = .ok (.iload_n 3, 1) := by decide +kernel
theorem dX5_ring_69 : decode cX5_ring 69 = .ok (.invokevirtual 156, 3) := by decide +kernel
theorem dX5_ring_72 : decode cX5_ring 72 = .ok (.istore 4, 2) := by decide +kernel
theorem dX5_ring_74 : decode cX5_ring 74 = .ok (.aload_n 0, 1) := by decide +kernel
theorem dX5_ring_75 : decode cX5_ring 75 = .ok (.dup, 1) := by decide +kernel
theorem dX5_ring_76 : decode cX5_ring 76 = .ok (.getfield 159, 3) := by decide +kernel
theorem dX5_ring_79 : decode cX5_ring 79 = .ok (.iconst 1, 1) := by decide +kernel
theorem dX5_ring_80 : decode cX5_ring 80 = .ok (.iadd, 1) := by decide +kernel
theorem dX5_ring_81 : decode cX5_ring 81 = .ok (.putfield 159, 3) := by decide +kernel
theorem dX5_ring_84 : decode cX5_ring 84 = .ok (.aload_n 0, 1) := by decide +kernel
theorem dX5_ring_85 : decode cX5_ring 85 = .ok (.dup, 1) := by decide +kernel
theorem dX5_ring_86 : decode cX5_ring 86 = .ok (.getfield 162, 3) := by decide +kernel
theorem dX5_ring_89 : decode cX5_ring 89 = .ok (.iload 4, 2) := by decide +kernel
theorem dX5_ring_91 : decode cX5_ring 91 = .ok (.iadd, 1) := by decide +kernel
theorem dX5_ring_92 : decode cX5_ring 92 = .ok (.putfield 162, 3) := by decide +kernel
theorem dX5_ring_95 : decode cX5_ring 95 = .ok (.iload 4, 2) := by decide +kernel
theorem dX5_ring_97 : decode cX5_ring 97 = .ok (.ireturn, 1) := by decide +kernel
theorem dX5_wouldBring_0 : decode cX5_wouldBring 0 = .ok (.aload_n 0, 1) := by decide +kernel
theorem dX5_wouldBring_1 : decode cX5_wouldBring 1 = .ok (.getfield 45, 3) := by decide +kernel
theorem dX5_wouldBring_4 : decode cX5_wouldBring 4 = .ok (.iload_n 1, 1) := by decide +kernel
theorem dX5_wouldBring_5 : decode cX5_wouldBring 5 = .ok (.iload_n 2, 1) := by decide +kernel
theorem dX5_wouldBring_6 : decode cX5_wouldBring 6 = .ok (.invokevirtual 153, 3) := by decide +kernel
theorem dX5_wouldBring_9 : decode cX5_wouldBring 9 = .ok (.ifCond .ne 7, 3) := by decide +kernel
theorem dX5_wouldBring_12 : decode cX5_wouldBring 12 = .ok (.sipush (-1000), 3) := by decide +kernel
theorem dX5_wouldBring_15 : decode cX5_wouldBring 15 = .ok (.ireturn, 1) := by decide +kernel
theorem dX5_wouldBring_16 : decode cX5_wouldBring 16 = .ok (.aload_n 0, 1) := by decide +kernel
theorem dX5_wouldBring_17 : decode cX5_wouldBring 17 = .ok (.getfield 49, 3) := by decide +kernel
theorem dX5_wouldBring_20 : decode cX5_wouldBring 20 = .ok (.aload_n 0, 1) := by decide +kernel
theorem dX5_wouldBring_21 : decode cX5_wouldBring 21 = .ok (.getfield 45, 3) := by decide +kernel
theorem dX5_wouldBring_24 : decode cX5_wouldBring 24 = .ok (.invokevirtual 130, 3) := by decide +kernel
theorem dX5_wouldBring_27 : decode cX5_wouldBring 27 = .ok (.iload_n 1, 1) := by decide +kernel
theorem dX5_wouldBring_28 : decode cX5_wouldBring 28 = .ok (.iload_n 2, 1) := by decide +kernel
theorem dX5_wouldBring_29 : decode cX5_wouldBring 29 = .ok (.iload_n 3, 1) := by decide +kernel
theorem dX5_wouldBring_30 : decode cX5_wouldBring 30 = .ok (.invokevirtual 156, 3) := by decide +kernel
theorem dX5_wouldBring_33 : decode cX5_wouldBring 33 = .ok (.pop, 1) := by decide +kernel
theorem dX5_wouldBring_34 : decode cX5_wouldBring 34 = .ok (.aload_n 0, 1) := by decide +kernel
theorem dX5_wouldBring_35 : decode cX5_wouldBring 35 = .ok (.getfield 49, 3) := by decide +kernel
theorem dX5_wouldBring_38 : decode cX5_wouldBring 38 = .ok (.invokevirtual 165, 3) := by decide +kernel
theorem dX5_wouldBring_41 : decode cX5_wouldBring 41 = .ok (.aload_n 0, 1) := by decide +kernel
theorem dX5_wouldBring_42 : decode cX5_wouldBring 42 = .ok (.getfield 45, 3) := by decide +kernel
theorem dX5_wouldBring_45 : decode cX5_wouldBring 45 = .ok (.invokevirtual 165, 3) := by decide +kernel
theorem dX5_wouldBring_48 : decode cX5_wouldBring 48 = .ok (.isub, 1) := by decide +kernel
theorem dX5_wouldBring_49 : decode cX5_wouldBring 49 = .ok (.ireturn, 1) := by decide +kernel
theorem dX5_would_0 : decode cX5_would 0 = .ok (.aload_n 0, 1) := by decide +kernel
theorem dX5_would_1 : decode cX5_would 1 = .ok (.iconst 0, 1) := by decide +kernel
theorem dX5_would_2 : decode cX5_would 2 = .ok (.putfield 52, 3) := by decide +kernel
theorem dX5_would_5 : decode cX5_would 5 = .ok (.iload_n 1, 1) := by decide +kernel
theorem dX5_would_6 : decode cX5_would 6 = .ok (.iconst 0, 1) := by decide +kernel
theorem dX5_would_7 : decode cX5_would 7 = .ok (.iconst 2, 1) := by decide +kernel
theorem dX5_would_8 : decode cX5_would 8 = .ok (.invokestatic 59, 3) := by decide +kernel
theorem dX5_would_11 : decode cX5_would 11 = .ok (.ifCond .eq 11, 3) := by decide +kernel
theorem dX5_would_14 : decode cX5_would 14 = .ok (.aload_n 0, 1) := by decide +kernel
theorem dX5_would_15 : decode cX5_would 15 = .ok (.iload_n 2, 1) := by decide +kernel
theorem dX5_would_16 : decode cX5_would 16 = .ok (.invokevirtual 138, 3) := by decide +kernel
theorem dX5_would_19 : decode cX5_would 19 = .ok (.ifCond .ne 9, 3) := by decide +kernel
theorem dX5_would_22 : decode cX5_would 22 = .ok (.aload_n 0, 1) := by decide +kernel
theorem dX5_would_23 : decode cX5_would 23 = .ok (.iconst 1, 1) := by decide +kernel
theorem dX5_would_24 : decode cX5_would 24 = .ok (.invokevirtual 84, 3) := by decide +kernel
theorem dX5_would_27 : decode cX5_would 27 = .ok (.ireturn, 1) := by decide +kernel
theorem dX5_would_28 : decode cX5_would 28 = .ok (.iload_n 3, 1) := by decide +kernel
theorem dX5_would_29 : decode cX5_would 29 = .ok (.iconst 1, 1) := by decide +kernel
theorem dX5_would_30 : decode cX5_would 30 = .ok (.bipush 12, 2) := by decide +kernel
theorem dX5_would_32 : decode cX5_would 32 = .ok (.invokestatic 59, 3) := by decide +kernel
theorem dX5_would_35 : decode cX5_would 35 = .ok (.ifCond .eq 13, 3) := by decide +kernel
theorem dX5_would_38 : decode cX5_would 38 = .ok (.aload_n 0, 1) := by decide +kernel
theorem dX5_would_39 : decode cX5_would 39 = .ok (.iload_n 1, 1) := by decide +kernel
theorem dX5_would_40 : decode cX5_would 40 = .ok (.iload_n 2, 1) := by decide +kernel
theorem dX5_would_41 : decode cX5_would 41 = .ok (.iload_n 3, 1) := by decide +kernel
theorem dX5_would_42 : decode cX5_would 42 = .ok (.invokevirtual 168, 3) := by decide +kernel
theorem dX5_would_45 : decode cX5_would 45 = .ok (.goto 8, 3) := by decide +kernel
theorem dX5_would_48 : decode cX5_would 48 = .ok (.aload_n 0, 1) := by decide +kernel
theorem dX5_would_49 : decode cX5_would 49 = .ok (.iconst 2, 1) := by decide +kernel
theorem dX5_would_50 : decode cX5_would 50 = .ok (.invokevirtual 84, 3) := by decide +kernel
theorem dX5_would_53 : decode cX5_would 53 = .ok (.ireturn, 1) := by decide +kernel
theorem dX5_advise_0 : decode cX5_advise 0 = .ok (.aload_n 0, 1) := by decide +kernel
theorem dX5_advise_1 : decode cX5_advise 1 = .ok (.iconst 0, 1) := by decide +kernel
theorem dX5_advise_2 : decode cX5_advise 2 = .ok (.putfield 52, 3) := by decide +kernel
theorem dX5_advise_5 : decode cX5_advise 5 = .ok (.iload_n 1, 1) := by decide +kernel
theorem dX5_advise_6 : decode cX5_advise 6 = .ok (.iconst 0, 1) := by decide +kernel
theorem dX5_advise_7 : decode cX5_advise 7 = .ok (.iconst 2, 1) := by decide +kernel
theorem dX5_advise_8 : decode cX5_advise 8 = .ok (.invokestatic 59, 3) := by decide +kernel
theorem dX5_advise_11 : decode cX5_advise 11 = .ok (.ifCond .ne 9, 3) := by decide +kernel
theorem dX5_advise_14 : decode cX5_advise 14 = .ok (.aload_n 0, 1) := by decide +kernel
theorem dX5_advise_15 : decode cX5_advise 15 = .ok (.iconst 1, 1) := by decide +kernel
theorem dX5_advise_16 : decode cX5_advise 16 = .ok (.invokevirtual 84, 3) := by decide +kernel
theorem dX5_advise_19 : decode cX5_advise 19 = .ok (.ireturn, 1) := by decide +kernel
theorem dX5_advise_20 : decode cX5_advise 20 = .ok (.iconst (-1), 1) := by decide +kernel
theorem dX5_advise_21 : decode cX5_advise 21 = .ok (.istore_n 2, 1) := by decide +kernel
theorem dX5_advise_22 : decode cX5_advise 22 = .ok (.iconst 0, 1) := by decide +kernel
theorem dX5_advise_23 : decode cX5_advise 23 = .ok (.istore_n 3, 1) := by decide +kernel
theorem dX5_advise_24 : decode cX5_advise 24 = .ok (.iconst 0, 1) := by decide +kernel
theorem dX5_advise_25 : decode cX5_advise 25 = .ok (.istore 4, 2) := by decide +kernel
theorem dX5_advise_27 : decode cX5_advise 27 = .ok (.iload 4, 2) := by decide +kernel
theorem dX5_advise_29 : decode cX5_advise 29 = .ok (.aload_n 0, 1) := by decide +kernel
theorem dX5_advise_30 : decode cX5_advise 30 = .ok (.getfield 63, 3) := by decide +kernel
theorem dX5_advise_33 : decode cX5_advise 33 = .ok (.if_icmp .ge 39, 3) := by decide +kernel
theorem dX5_advise_36 : decode cX5_advise 36 = .ok (.aload_n 0, 1) := by decide +kernel
theorem dX5_advise_37 : decode cX5_advise 37 = .ok (.iload_n 1, 1) := by decide +kernel
theorem dX5_advise_38 : decode cX5_advise 38 = .ok (.iload 4, 2) := by decide +kernel
theorem dX5_advise_40 : decode cX5_advise 40 = .ok (.aload_n 0, 1) := by decide +kernel
theorem dX5_advise_41 : decode cX5_advise 41 = .ok (.iload 4, 2) := by decide +kernel
theorem dX5_advise_43 : decode cX5_advise 43 = .ok (.invokevirtual 141, 3) := by decide +kernel
theorem dX5_advise_46 : decode cX5_advise 46 = .ok (.invokevirtual 168, 3) := by decide +kernel
theorem dX5_advise_49 : decode cX5_advise 49 = .ok (.istore 5, 2) := by decide +kernel
theorem dX5_advise_51 : decode cX5_advise 51 = .ok (.iload 5, 2) := by decide +kernel
theorem dX5_advise_53 : decode cX5_advise 53 = .ok (.iload_n 3, 1) := by decide +kernel
theorem dX5_advise_54 : decode cX5_advise 54 = .ok (.if_icmp .gt 6, 3) := by decide +kernel
theorem dX5_advise_57 : decode cX5_advise 57 = .ok (.goto 9, 3) := by decide +kernel
theorem dX5_advise_60 : decode cX5_advise 60 = .ok (.iload 5, 2) := by decide +kernel
theorem dX5_advise_62 : decode cX5_advise 62 = .ok (.istore_n 3, 1) := by decide +kernel
theorem dX5_advise_63 : decode cX5_advise 63 = .ok (.iload 4, 2) := by decide +kernel
theorem dX5_advise_65 : decode cX5_advise 65 = .ok (.istore_n 2, 1) := by decide +kernel
theorem dX5_advise_66 : decode cX5_advise 66 = .ok (.iinc 4 1, 3) := by decide +kernel
theorem dX5_advise_69 : decode cX5_advise 69 = .ok (.goto (-42), 3) := by decide +kernel
theorem dX5_advise_72 : decode cX5_advise 72 = .ok (.iload_n 2, 1) := by decide +kernel
theorem dX5_advise_73 : decode cX5_advise 73 = .ok (.ireturn, 1) := by decide +kernel
theorem dX5_counted_0 : decode cX5_counted 0 = .ok (.iconst 0, 1) := by decide +kernel
theorem dX5_counted_1 : decode cX5_counted 1 = .ok (.istore_n 2, 1) := by decide +kernel
theorem dX5_counted_2 : decode cX5_counted 2 = .ok (.iconst 0, 1) := by decide +kernel
theorem dX5_counted_3 : decode cX5_counted 3 = .ok (.istore_n 3, 1) := by decide +kernel
theorem dX5_counted_4 : decode cX5_counted 4 = .ok (.iconst 0, 1) := by decide +kernel
theorem dX5_counted_5 : decode cX5_counted 5 = .ok (.istore 4, 2) := by decide +kernel
theorem dX5_counted_7 : decode cX5_counted 7 = .ok (.iconst 0, 1) := by decide +kernel
theorem dX5_counted_8 : decode cX5_counted 8 = .ok (.istore 5, 2) := by decide +kernel
theorem dX5_counted_10 : decode cX5_counted 10 = .ok (.iload 5, 2) := by decide +kernel
theorem dX5_counted_12 : decode cX5_counted 12 = .ok (.aload_n 0, 1) := by decide +kernel
theorem dX5_counted_13 : decode cX5_counted 13 = .ok (.getfield 56, 3) := by decide +kernel
theorem dX5_counted_16 : decode cX5_counted 16 = .ok (.if_icmp .ge 45, 3) := by decide +kernel
theorem dX5_counted_19 : decode cX5_counted 19 = .ok (.iload_n 2, 1) := by decide +kernel
theorem dX5_counted_20 : decode cX5_counted 20 = .ok (.aload_n 0, 1) := by decide +kernel
theorem dX5_counted_21 : decode cX5_counted 21 = .ok (.getfield 45, 3) := by decide +kernel
theorem dX5_counted_24 : decode cX5_counted 24 = .ok (.getfield 91, 3) := by decide +kernel
theorem dX5_counted_27 : decode cX5_counted 27 = .ok (.iload 5, 2) := by decide +kernel
theorem dX5_counted_29 : decode cX5_counted 29 = .ok (.iaload, 1) := by decide +kernel
theorem dX5_counted_30 : decode cX5_counted 30 = .ok (.ifCond .lt 7, 3) := by decide +kernel
theorem dX5_counted_33 : decode cX5_counted 33 = .ok (.iconst 1, 1) := by decide +kernel
theorem dX5_counted_34 : decode cX5_counted 34 = .ok (.goto 4, 3) := by decide +kernel
theorem dX5_counted_37 : decode cX5_counted 37 = .ok (.iconst 0, 1) := by decide +kernel
theorem dX5_counted_38 : decode cX5_counted 38 = .ok (.iadd, 1) := by decide +kernel
theorem dX5_counted_39 : decode cX5_counted 39 = .ok (.istore_n 2, 1) := by decide +kernel
theorem dX5_counted_40 : decode cX5_counted 40 = .ok (.iload 4, 2) := by decide +kernel
theorem dX5_counted_42 : decode cX5_counted 42 = .ok (.aload_n 0, 1) := by decide +kernel
theorem dX5_counted_43 : decode cX5_counted 43 = .ok (.getfield 45, 3) := by decide +kernel
theorem dX5_counted_46 : decode cX5_counted 46 = .ok (.getfield 123, 3) := by decide +kernel
theorem dX5_counted_49 : decode cX5_counted 49 = .ok (.iload 5, 2) := by decide +kernel
theorem dX5_counted_51 : decode cX5_counted 51 = .ok (.iaload, 1) := by decide +kernel
theorem dX5_counted_52 : decode cX5_counted 52 = .ok (.iadd, 1) := by decide +kernel
theorem dX5_counted_53 : decode cX5_counted 53 = .ok (.istore 4, 2) := by decide +kernel
theorem dX5_counted_55 : decode cX5_counted 55 = .ok (.iinc 5 1, 3) := by decide +kernel
theorem dX5_counted_58 : decode cX5_counted 58 = .ok (.goto (-48), 3) := by decide +kernel
theorem dX5_counted_61 : decode cX5_counted 61 = .ok (.iconst 0, 1) := by decide +kernel
theorem dX5_counted_62 : decode cX5_counted 62 = .ok (.istore 5, 2) := by decide +kernel
theorem dX5_counted_64 : decode cX5_counted 64 = .ok (.iload 5, 2) := by decide +kernel
theorem dX5_counted_66 : decode cX5_counted 66 = .ok (.iconst 3, 1) := by decide +kernel
theorem dX5_counted_67 : decode cX5_counted 67 = .ok (.if_icmp .ge 31, 3) := by decide +kernel
theorem dX5_counted_70 : decode cX5_counted 70 = .ok (.iload_n 3, 1) := by decide +kernel
theorem dX5_counted_71 : decode cX5_counted 71 = .ok (.aload_n 0, 1) := by decide +kernel
theorem dX5_counted_72 : decode cX5_counted 72 = .ok (.getfield 45, 3) := by decide +kernel
theorem dX5_counted_75 : decode cX5_counted 75 = .ok (.iload 5, 2) := by decide +kernel
theorem dX5_counted_77 : decode cX5_counted 77 = .ok (.invokevirtual 114, 3) := by decide +kernel
theorem dX5_counted_80 : decode cX5_counted 80 = .ok (.bipush 6, 2) := by decide +kernel
theorem dX5_counted_82 : decode cX5_counted 82 = .ok (.if_icmp .ne 7, 3) := by decide +kernel
theorem dX5_counted_85 : decode cX5_counted 85 = .ok (.iconst 1, 1) := by decide +kernel
theorem dX5_counted_86 : decode cX5_counted 86 = .ok (.goto 4, 3) := by decide +kernel
theorem dX5_counted_89 : decode cX5_counted 89 = .ok (.iconst 0, 1) := by decide +kernel
theorem dX5_counted_90 : decode cX5_counted 90 = .ok (.iadd, 1) := by decide +kernel
theorem dX5_counted_91 : decode cX5_counted 91 = .ok (.istore_n 3, 1) := by decide +kernel
theorem dX5_counted_92 : decode cX5_counted 92 = .ok (.iinc 5 1, 3) := by decide +kernel
theorem dX5_counted_95 : decode cX5_counted 95 = .ok (.goto (-31), 3) := by decide +kernel
theorem dX5_counted_98 : decode cX5_counted 98 = .ok (.bipush 9, 2) := by decide +kernel
theorem dX5_counted_100 : decode cX5_counted 100 = .ok (.newarray .int, 2) := by decide +kernel
theorem dX5_counted_102 : decode cX5_counted 102 = .ok (.dup, 1) := by decide +kernel
theorem dX5_counted_103 : decode cX5_counted 103 = .ok (.iconst 0, 1) := by decide +kernel
theorem dX5_counted_104 : decode cX5_counted 104 = .ok (.aload_n 0, 1) := by decide +kernel
theorem dX5_counted_105 : decode cX5_counted 105 = .ok (.getfield 45, 3) := by decide +kernel
theorem dX5_counted_108 : decode cX5_counted 108 = .ok (.getfield 171, 3) := by decide +kernel
theorem dX5_counted_111 : decode cX5_counted 111 = .ok (.iastore, 1) := by decide +kernel
theorem dX5_counted_112 : decode cX5_counted 112 = .ok (.dup, 1) := by decide +kernel
theorem dX5_counted_113 : decode cX5_counted 113 = .ok (.iconst 1, 1) := by decide +kernel
theorem dX5_counted_114 : decode cX5_counted 114 = .ok (.aload_n 0, 1) := by decide +kernel
theorem dX5_counted_115 : decode cX5_counted 115 = .ok (.getfield 56, 3) := by decide +kernel
theorem dX5_counted_118 : decode cX5_counted 118 = .ok (.iastore, 1) := by decide +kernel
theorem dX5_counted_119 : decode cX5_counted 119 = .ok (.dup, 1) := by decide +kernel
theorem dX5_counted_120 : decode cX5_counted 120 = .ok (.iconst 2, 1) := by decide +kernel
theorem dX5_counted_121 : decode cX5_counted 121 = .ok (.iload_n 2, 1) := by decide +kernel
theorem dX5_counted_122 : decode cX5_counted 122 = .ok (.iastore, 1) := by decide +kernel
theorem dX5_counted_123 : decode cX5_counted 123 = .ok (.dup, 1) := by decide +kernel
theorem dX5_counted_124 : decode cX5_counted 124 = .ok (.iconst 3, 1) := by decide +kernel
theorem dX5_counted_125 : decode cX5_counted 125 = .ok (.aload_n 0, 1) := by decide +kernel
theorem dX5_counted_126 : decode cX5_counted 126 = .ok (.getfield 63, 3) := by decide +kernel
theorem dX5_counted_129 : decode cX5_counted 129 = .ok (.iastore, 1) := by decide +kernel
theorem dX5_counted_130 : decode cX5_counted 130 = .ok (.dup, 1) := by decide +kernel
theorem dX5_counted_131 : decode cX5_counted 131 = .ok (.iconst 4, 1) := by decide +kernel
theorem dX5_counted_132 : decode cX5_counted 132 = .ok (.iload_n 3, 1) := by decide +kernel
theorem dX5_counted_133 : decode cX5_counted 133 = .ok (.iastore, 1) := by decide +kernel
theorem dX5_counted_134 : decode cX5_counted 134 = .ok (.dup, 1) := by decide +kernel
theorem dX5_counted_135 : decode cX5_counted 135 = .ok (.iconst 5, 1) := by decide +kernel
theorem dX5_counted_136 : decode cX5_counted 136 = .ok (.aload_n 0, 1) := by decide +kernel
theorem dX5_counted_137 : decode cX5_counted 137 = .ok (.getfield 159, 3) := by decide +kernel
theorem dX5_counted_140 : decode cX5_counted 140 = .ok (.iastore, 1) := by decide +kernel
theorem dX5_counted_141 : decode cX5_counted 141 = .ok (.dup, 1) := by decide +kernel
theorem dX5_counted_142 : decode cX5_counted 142 = .ok (.bipush 6, 2) := by decide +kernel
theorem dX5_counted_144 : decode cX5_counted 144 = .ok (.aload_n 0, 1) := by decide +kernel
theorem dX5_counted_145 : decode cX5_counted 145 = .ok (.getfield 162, 3) := by decide +kernel
theorem dX5_counted_148 : decode cX5_counted 148 = .ok (.iastore, 1) := by decide +kernel
theorem dX5_counted_149 : decode cX5_counted 149 = .ok (.dup, 1) := by decide +kernel
theorem dX5_counted_150 : decode cX5_counted 150 = .ok (.bipush 7, 2) := by decide +kernel
theorem dX5_counted_152 : decode cX5_counted 152 = .ok (.iload 4, 2) := by decide +kernel
theorem dX5_counted_154 : decode cX5_counted 154 = .ok (.iastore, 1) := by decide +kernel
theorem dX5_counted_155 : decode cX5_counted 155 = .ok (.dup, 1) := by decide +kernel
theorem dX5_counted_156 : decode cX5_counted 156 = .ok (.bipush 8, 2) := by decide +kernel
theorem dX5_counted_158 : decode cX5_counted 158 = .ok (.aload_n 0, 1) := by decide +kernel
theorem dX5_counted_159 : decode cX5_counted 159 = .ok (.getfield 45, 3) := by decide +kernel
theorem dX5_counted_162 : decode cX5_counted 162 = .ok (.invokevirtual 165, 3) := by decide +kernel
theorem dX5_counted_165 : decode cX5_counted 165 = .ok (.iastore, 1) := by decide +kernel
theorem dX5_counted_166 : decode cX5_counted 166 = .ok (.astore 5, 2) := by decide +kernel
theorem dX5_counted_168 : decode cX5_counted 168 = .ok (.aload 5, 2) := by decide +kernel
theorem dX5_counted_170 : decode cX5_counted 170 = .ok (.iload_n 1, 1) := by decide +kernel
theorem dX5_counted_171 : decode cX5_counted 171 = .ok (.iaload, 1) := by decide +kernel
theorem dX5_counted_172 : decode cX5_counted 172 = .ok (.ireturn, 1) := by decide +kernel
theorem dX5_count_0 : decode cX5_count 0 = .ok (.aload_n 0, 1) := by decide +kernel
theorem dX5_count_1 : decode cX5_count 1 = .ok (.iconst 0, 1) := by decide +kernel
theorem dX5_count_2 : decode cX5_count 2 = .ok (.putfield 52, 3) := by decide +kernel
theorem dX5_count_5 : decode cX5_count 5 = .ok (.iload_n 1, 1) := by decide +kernel
theorem dX5_count_6 : decode cX5_count 6 = .ok (.iconst 0, 1) := by decide +kernel
theorem dX5_count_7 : decode cX5_count 7 = .ok (.bipush 8, 2) := by decide +kernel
theorem dX5_count_9 : decode cX5_count 9 = .ok (.invokestatic 59, 3) := by decide +kernel
theorem dX5_count_12 : decode cX5_count 12 = .ok (.ifCond .eq 11, 3) := by decide +kernel
theorem dX5_count_15 : decode cX5_count 15 = .ok (.aload_n 0, 1) := by decide +kernel
theorem dX5_count_16 : decode cX5_count 16 = .ok (.iload_n 1, 1) := by decide +kernel
theorem dX5_count_17 : decode cX5_count 17 = .ok (.invokevirtual 174, 3) := by decide +kernel
theorem dX5_count_20 : decode cX5_count 20 = .ok (.goto 8, 3) := by decide +kernel
theorem dX5_count_23 : decode cX5_count 23 = .ok (.aload_n 0, 1) := by decide +kernel
theorem dX5_count_24 : decode cX5_count 24 = .ok (.iconst 1, 1) := by decide +kernel
theorem dX5_count_25 : decode cX5_count 25 = .ok (.invokevirtual 84, 3) := by decide +kernel
theorem dX5_count_28 : decode cX5_count 28 = .ok (.ireturn, 1) := by decide +kernel
theorem dX5_pass_0 : decode cX5_pass 0 = .ok (.aload_n 0, 1) := by decide +kernel
theorem dX5_pass_1 : decode cX5_pass 1 = .ok (.iconst 0, 1) := by decide +kernel
theorem dX5_pass_2 : decode cX5_pass 2 = .ok (.putfield 52, 3) := by decide +kernel
theorem dX5_pass_5 : decode cX5_pass 5 = .ok (.iload_n 1, 1) := by decide +kernel
theorem dX5_pass_6 : decode cX5_pass 6 = .ok (.iconst 1, 1) := by decide +kernel
theorem dX5_pass_7 : decode cX5_pass 7 = .ok (.bipush 60, 2) := by decide +kernel
theorem dX5_pass_9 : decode cX5_pass 9 = .ok (.invokestatic 59, 3) := by decide +kernel
theorem dX5_pass_12 : decode cX5_pass 12 = .ok (.ifCond .ne 9, 3) := by decide +kernel
theorem dX5_pass_15 : decode cX5_pass 15 = .ok (.aload_n 0, 1) := by decide +kernel
theorem dX5_pass_16 : decode cX5_pass 16 = .ok (.iconst 1, 1) := by decide +kernel
theorem dX5_pass_17 : decode cX5_pass 17 = .ok (.invokevirtual 84, 3) := by decide +kernel
theorem dX5_pass_20 : decode cX5_pass 20 = .ok (.ireturn, 1) := by decide +kernel
theorem dX5_pass_21 : decode cX5_pass 21 = .ok (.aload_n 0, 1) := by decide +kernel
theorem dX5_pass_22 : decode cX5_pass 22 = .ok (.getfield 45, 3) := by decide +kernel
theorem dX5_pass_25 : decode cX5_pass 25 = .ok (.getfield 91, 3) := by decide +kernel
theorem dX5_pass_28 : decode cX5_pass 28 = .ok (.invokevirtual 177, 3) := by decide +kernel
theorem dX5_pass_31 : decode cX5_pass 31 = .ok (.checkcast 178, 3) := by decide +kernel
theorem dX5_pass_34 : decode cX5_pass 34 = .ok (.astore_n 2, 1) := by decide +kernel
theorem dX5_pass_35 : decode cX5_pass 35 = .ok (.aload_n 0, 1) := by decide +kernel
theorem dX5_pass_36 : decode cX5_pass 36 = .ok (.getfield 45, 3) := by decide +kernel
theorem dX5_pass_39 : decode cX5_pass 39 = .ok (.iload_n 1, 1) := by decide +kernel
theorem dX5_pass_40 : decode cX5_pass 40 = .ok (.invokevirtual 182, 3) := by decide +kernel
theorem dX5_pass_43 : decode cX5_pass 43 = .ok (.iconst 0, 1) := by decide +kernel
theorem dX5_pass_44 : decode cX5_pass 44 = .ok (.istore_n 3, 1) := by decide +kernel
theorem dX5_pass_45 : decode cX5_pass 45 = .ok (.iconst 0, 1) := by decide +kernel
theorem dX5_pass_46 : decode cX5_pass 46 = .ok (.istore 4, 2) := by decide +kernel
theorem dX5_pass_48 : decode cX5_pass 48 = .ok (.iload 4, 2) := by decide +kernel
theorem dX5_pass_50 : decode cX5_pass 50 = .ok (.aload_n 0, 1) := by decide +kernel
theorem dX5_pass_51 : decode cX5_pass 51 = .ok (.getfield 56, 3) := by decide +kernel
theorem dX5_pass_54 : decode cX5_pass 54 = .ok (.if_icmp .ge 34, 3) := by decide +kernel
theorem dX5_pass_57 : decode cX5_pass 57 = .ok (.iload_n 3, 1) := by decide +kernel
theorem dX5_pass_58 : decode cX5_pass 58 = .ok (.aload_n 0, 1) := by decide +kernel
theorem dX5_pass_59 : decode cX5_pass 59 = .ok (.getfield 45, 3) := by decide +kernel
theorem dX5_pass_62 : decode cX5_pass 62 = .ok (.getfield 91, 3) := by decide +kernel
theorem dX5_pass_65 : decode cX5_pass 65 = .ok (.iload 4, 2) := by decide +kernel
theorem dX5_pass_67 : decode cX5_pass 67 = .ok (.iaload, 1) := by decide +kernel
theorem dX5_pass_68 : decode cX5_pass 68 = .ok (.aload_n 2, 1) := by decide +kernel
theorem dX5_pass_69 : decode cX5_pass 69 = .ok (.iload 4, 2) := by decide +kernel
theorem dX5_pass_71 : decode cX5_pass 71 = .ok (.iaload, 1) := by decide +kernel
theorem dX5_pass_72 : decode cX5_pass 72 = .ok (.if_icmp .eq 7, 3) := by decide +kernel
theorem dX5_pass_75 : decode cX5_pass 75 = .ok (.iconst 1, 1) := by decide +kernel
theorem dX5_pass_76 : decode cX5_pass 76 = .ok (.goto 4, 3) := by decide +kernel
theorem dX5_pass_79 : decode cX5_pass 79 = .ok (.iconst 0, 1) := by decide +kernel
theorem dX5_pass_80 : decode cX5_pass 80 = .ok (.iadd, 1) := by decide +kernel
theorem dX5_pass_81 : decode cX5_pass 81 = .ok (.istore_n 3, 1) := by decide +kernel
theorem dX5_pass_82 : decode cX5_pass 82 = .ok (.iinc 4 1, 3) := by decide +kernel
theorem dX5_pass_85 : decode cX5_pass 85 = .ok (.goto (-37), 3) := by decide +kernel
theorem dX5_pass_88 : decode cX5_pass 88 = .ok (.iload_n 3, 1) := by decide +kernel
theorem dX5_pass_89 : decode cX5_pass 89 = .ok (.ireturn, 1) := by decide +kernel
theorem dX5_foresee_0 : decode cX5_foresee 0 = .ok (.aload_n 0, 1) := by decide +kernel
theorem dX5_foresee_1 : decode cX5_foresee 1 = .ok (.iconst 0, 1) := by decide +kernel
theorem dX5_foresee_2 : decode cX5_foresee 2 = .ok (.putfield 52, 3) := by decide +kernel
theorem dX5_foresee_5 : decode cX5_foresee 5 = .ok (.aload_n 0, 1) := by decide +kernel
theorem dX5_foresee_6 : decode cX5_foresee 6 = .ok (.iload_n 1, 1) := by decide +kernel
theorem dX5_foresee_7 : decode cX5_foresee 7 = .ok (.invokevirtual 94, 3) := by decide +kernel
theorem dX5_foresee_10 : decode cX5_foresee 10 = .ok (.ifCond .ne 9, 3) := by decide +kernel
theorem dX5_foresee_13 : decode cX5_foresee 13 = .ok (.aload_n 0, 1) := by decide +kernel
theorem dX5_foresee_14 : decode cX5_foresee 14 = .ok (.iconst 1, 1) := by decide +kernel
theorem dX5_foresee_15 : decode cX5_foresee 15 = .ok (.invokevirtual 84, 3) := by decide +kernel
theorem dX5_foresee_18 : decode cX5_foresee 18 = .ok (.ireturn, 1) := by decide +kernel
theorem dX5_foresee_19 : decode cX5_foresee 19 = .ok (.iload_n 2, 1) := by decide +kernel
theorem dX5_foresee_20 : decode cX5_foresee 20 = .ok (.iconst 1, 1) := by decide +kernel
theorem dX5_foresee_21 : decode cX5_foresee 21 = .ok (.bipush 60, 2) := by decide +kernel
theorem dX5_foresee_23 : decode cX5_foresee 23 = .ok (.invokestatic 59, 3) := by decide +kernel
theorem dX5_foresee_26 : decode cX5_foresee 26 = .ok (.ifCond .eq 12, 3) := by decide +kernel
theorem dX5_foresee_29 : decode cX5_foresee 29 = .ok (.iload_n 3, 1) := by decide +kernel
theorem dX5_foresee_30 : decode cX5_foresee 30 = .ok (.iconst 3, 1) := by decide +kernel
theorem dX5_foresee_31 : decode cX5_foresee 31 = .ok (.iconst 5, 1) := by decide +kernel
theorem dX5_foresee_32 : decode cX5_foresee 32 = .ok (.invokestatic 59, 3) := by decide +kernel
theorem dX5_foresee_35 : decode cX5_foresee 35 = .ok (.ifCond .ne 9, 3) := by decide +kernel
theorem dX5_foresee_38 : decode cX5_foresee 38 = .ok (.aload_n 0, 1) := by decide +kernel
theorem dX5_foresee_39 : decode cX5_foresee 39 = .ok (.iconst 2, 1) := by decide +kernel
theorem dX5_foresee_40 : decode cX5_foresee 40 = .ok (.invokevirtual 84, 3) := by decide +kernel
theorem dX5_foresee_43 : decode cX5_foresee 43 = .ok (.ireturn, 1) := by decide +kernel
theorem dX5_foresee_44 : decode cX5_foresee 44 = .ok (.aload_n 0, 1) := by decide +kernel
theorem dX5_foresee_45 : decode cX5_foresee 45 = .ok (.getfield 49, 3) := by decide +kernel
theorem dX5_foresee_48 : decode cX5_foresee 48 = .ok (.aload_n 0, 1) := by decide +kernel
theorem dX5_foresee_49 : decode cX5_foresee 49 = .ok (.getfield 45, 3) := by decide +kernel
theorem dX5_foresee_52 : decode cX5_foresee 52 = .ok (.invokevirtual 130, 3) := by decide +kernel
theorem dX5_foresee_55 : decode cX5_foresee 55 = .ok (.iload_n 2, 1) := by decide +kernel
theorem dX5_foresee_56 : decode cX5_foresee 56 = .ok (.invokevirtual 182, 3) := by decide +kernel
theorem dX5_foresee_59 : decode cX5_foresee 59 = .ok (.aload_n 0, 1) := by decide +kernel
theorem dX5_foresee_60 : decode cX5_foresee 60 = .ok (.aload_n 0, 1) := by decide +kernel
theorem dX5_foresee_61 : decode cX5_foresee 61 = .ok (.getfield 49, 3) := by decide +kernel
theorem dX5_foresee_64 : decode cX5_foresee 64 = .ok (.iload_n 1, 1) := by decide +kernel
theorem dX5_foresee_65 : decode cX5_foresee 65 = .ok (.iload_n 3, 1) := by decide +kernel
theorem dX5_foresee_66 : decode cX5_foresee 66 = .ok (.invokevirtual 126, 3) := by decide +kernel
theorem dX5_foresee_69 : decode cX5_foresee 69 = .ok (.ireturn, 1) := by decide +kernel
theorem dX5_mean_0 : decode cX5_mean 0 = .ok (.aload_n 0, 1) := by decide +kernel
theorem dX5_mean_1 : decode cX5_mean 1 = .ok (.iconst 0, 1) := by decide +kernel
theorem dX5_mean_2 : decode cX5_mean 2 = .ok (.putfield 52, 3) := by decide +kernel
theorem dX5_mean_5 : decode cX5_mean 5 = .ok (.iconst 0, 1) := by decide +kernel
theorem dX5_mean_6 : decode cX5_mean 6 = .ok (.istore_n 1, 1) := by decide +kernel
theorem dX5_mean_7 : decode cX5_mean 7 = .ok (.iconst 0, 1) := by decide +kernel
theorem dX5_mean_8 : decode cX5_mean 8 = .ok (.istore_n 2, 1) := by decide +kernel
theorem dX5_mean_9 : decode cX5_mean 9 = .ok (.iconst 0, 1) := by decide +kernel
theorem dX5_mean_10 : decode cX5_mean 10 = .ok (.istore_n 3, 1) := by decide +kernel
theorem dX5_mean_11 : decode cX5_mean 11 = .ok (.iload_n 3, 1) := by decide +kernel
theorem dX5_mean_12 : decode cX5_mean 12 = .ok (.aload_n 0, 1) := by decide +kernel
theorem dX5_mean_13 : decode cX5_mean 13 = .ok (.getfield 56, 3) := by decide +kernel
theorem dX5_mean_16 : decode cX5_mean 16 = .ok (.if_icmp .ge 36, 3) := by decide +kernel
theorem dX5_mean_19 : decode cX5_mean 19 = .ok (.aload_n 0, 1) := by decide +kernel
theorem dX5_mean_20 : decode cX5_mean 20 = .ok (.getfield 45, 3) := by decide +kernel
theorem dX5_mean_23 : decode cX5_mean 23 = .ok (.getfield 91, 3) := by decide +kernel
theorem dX5_mean_26 : decode cX5_mean 26 = .ok (.iload_n 3, 1) := by decide +kernel
theorem dX5_mean_27 : decode cX5_mean 27 = .ok (.iaload, 1) := by decide +kernel
theorem dX5_mean_28 : decode cX5_mean 28 = .ok (.ifCond .ge 6, 3) := by decide +kernel
theorem dX5_mean_31 : decode cX5_mean 31 = .ok (.goto 15, 3) := by decide +kernel
theorem dX5_mean_34 : decode cX5_mean 34 = .ok (.iinc 1 1, 3) := by decide +kernel
theorem dX5_mean_37 : decode cX5_mean 37 = .ok (.iload_n 2, 1) := by decide +kernel
theorem dX5_mean_38 : decode cX5_mean 38 = .ok (.aload_n 0, 1) := by decide +kernel
theorem dX5_mean_39 : decode cX5_mean 39 = .ok (.getfield 13, 3) := by decide +kernel
theorem dX5_mean_42 : decode cX5_mean 42 = .ok (.iload_n 3, 1) := by decide +kernel
theorem dX5_mean_43 : decode cX5_mean 43 = .ok (.iaload, 1) := by decide +kernel
theorem dX5_mean_44 : decode cX5_mean 44 = .ok (.iadd, 1) := by decide +kernel
theorem dX5_mean_45 : decode cX5_mean 45 = .ok (.istore_n 2, 1) := by decide +kernel
theorem dX5_mean_46 : decode cX5_mean 46 = .ok (.iinc 3 1, 3) := by decide +kernel
theorem dX5_mean_49 : decode cX5_mean 49 = .ok (.goto (-38), 3) := by decide +kernel
theorem dX5_mean_52 : decode cX5_mean 52 = .ok (.iload_n 1, 1) := by decide +kernel
theorem dX5_mean_53 : decode cX5_mean 53 = .ok (.ifCond .ne 7, 3) := by decide +kernel
theorem dX5_mean_56 : decode cX5_mean 56 = .ok (.dconst 0, 1) := by decide +kernel
theorem dX5_mean_57 : decode cX5_mean 57 = .ok (.goto 8, 3) := by decide +kernel
theorem dX5_mean_60 : decode cX5_mean 60 = .ok (.iload_n 2, 1) := by decide +kernel
theorem dX5_mean_61 : decode cX5_mean 61 = .ok (.i2d, 1) := by decide +kernel
theorem dX5_mean_62 : decode cX5_mean 62 = .ok (.iload_n 1, 1) := by decide +kernel
theorem dX5_mean_63 : decode cX5_mean 63 = .ok (.i2d, 1) := by decide +kernel
theorem dX5_mean_64 : decode cX5_mean 64 = .ok (.ddiv, 1) := by decide +kernel
theorem dX5_mean_65 : decode cX5_mean 65 = .ok (.dreturn, 1) := by decide +kernel
theorem dX5_digest_0 : decode cX5_digest 0 = .ok (.aload_n 0, 1) := by decide +kernel
theorem dX5_digest_1 : decode cX5_digest 1 = .ok (.iconst 0, 1) := by decide +kernel
theorem dX5_digest_2 : decode cX5_digest 2 = .ok (.putfield 52, 3) := by decide +kernel
theorem dX5_digest_5 : decode cX5_digest 5 = .ok (.ldc2_w 186, 3) := by decide +kernel
theorem dX5_digest_8 : decode cX5_digest 8 = .ok (.lstore_n 1, 1) := by decide +kernel
theorem dX5_digest_9 : decode cX5_digest 9 = .ok (.iconst 0, 1) := by decide +kernel
theorem dX5_digest_10 : decode cX5_digest 10 = .ok (.istore_n 3, 1) := by decide +kernel
theorem dX5_digest_11 : decode cX5_digest 11 = .ok (.iload_n 3, 1) := by decide +kernel
theorem dX5_digest_12 : decode cX5_digest 12 = .ok (.bipush 8, 2) := by decide +kernel
theorem dX5_digest_14 : decode cX5_digest 14 = .ok (.if_icmp .gt 22, 3) := by decide +kernel
theorem dX5_digest_17 : decode cX5_digest 17 = .ok (.lload_n 1, 1) := by decide +kernel
theorem dX5_digest_18 : decode cX5_digest 18 = .ok (.ldc2_w 188, 3) := by decide +kernel
theorem dX5_digest_21 : decode cX5_digest 21 = .ok (.lmul, 1) := by decide +kernel
theorem dX5_digest_22 : decode cX5_digest 22 = .ok (.aload_n 0, 1) := by decide +kernel
theorem dX5_digest_23 : decode cX5_digest 23 = .ok (.iload_n 3, 1) := by decide +kernel
theorem dX5_digest_24 : decode cX5_digest 24 = .ok (.invokevirtual 174, 3) := by decide +kernel
theorem dX5_digest_27 : decode cX5_digest 27 = .ok (.i2l, 1) := by decide +kernel
theorem dX5_digest_28 : decode cX5_digest 28 = .ok (.ladd, 1) := by decide +kernel
theorem dX5_digest_29 : decode cX5_digest 29 = .ok (.lstore_n 1, 1) := by decide +kernel
theorem dX5_digest_30 : decode cX5_digest 30 = .ok (.iinc 3 1, 3) := by decide +kernel
theorem dX5_digest_33 : decode cX5_digest 33 = .ok (.goto (-22), 3) := by decide +kernel
theorem dX5_digest_36 : decode cX5_digest 36 = .ok (.iconst 0, 1) := by decide +kernel
theorem dX5_digest_37 : decode cX5_digest 37 = .ok (.istore_n 3, 1) := by decide +kernel
theorem dX5_digest_38 : decode cX5_digest 38 = .ok (.iload_n 3, 1) := by decide +kernel
theorem dX5_digest_39 : decode cX5_digest 39 = .ok (.aload_n 0, 1) := by decide +kernel
theorem dX5_digest_40 : decode cX5_digest 40 = .ok (.getfield 56, 3) := by decide +kernel
theorem dX5_digest_43 : decode cX5_digest 43 = .ok (.if_icmp .ge 44, 3) := by decide +kernel
theorem dX5_digest_46 : decode cX5_digest 46 = .ok (.iconst 0, 1) := by decide +kernel
theorem dX5_digest_47 : decode cX5_digest 47 = .ok (.istore 4, 2) := by decide +kernel
theorem dX5_digest_49 : decode cX5_digest 49 = .ok (.iload 4, 2) := by decide +kernel
theorem dX5_digest_51 : decode cX5_digest 51 = .ok (.bipush 7, 2) := by decide +kernel
theorem dX5_digest_53 : decode cX5_digest 53 = .ok (.if_icmp .gt 28, 3) := by decide +kernel
theorem dX5_digest_56 : decode cX5_digest 56 = .ok (.lload_n 1, 1) := by decide +kernel
theorem dX5_digest_57 : decode cX5_digest 57 = .ok (.ldc2_w 188, 3) := by decide +kernel
theorem dX5_digest_60 : decode cX5_digest 60 = .ok (.lmul, 1) := by decide +kernel
theorem dX5_digest_61 : decode cX5_digest 61 = .ok (.aload_n 0, 1) := by decide +kernel
theorem dX5_digest_62 : decode cX5_digest 62 = .ok (.aload_n 0, 1) := by decide +kernel
theorem dX5_digest_63 : decode cX5_digest 63 = .ok (.getfield 45, 3) := by decide +kernel
theorem dX5_digest_66 : decode cX5_digest 66 = .ok (.iload_n 3, 1) := by decide +kernel
theorem dX5_digest_67 : decode cX5_digest 67 = .ok (.iload 4, 2) := by decide +kernel
theorem dX5_digest_69 : decode cX5_digest 69 = .ok (.invokevirtual 126, 3) := by decide +kernel
theorem dX5_digest_72 : decode cX5_digest 72 = .ok (.i2l, 1) := by decide +kernel
theorem dX5_digest_73 : decode cX5_digest 73 = .ok (.ladd, 1) := by decide +kernel
theorem dX5_digest_74 : decode cX5_digest 74 = .ok (.lstore_n 1, 1) := by decide +kernel
theorem dX5_digest_75 : decode cX5_digest 75 = .ok (.iinc 4 1, 3) := by decide +kernel
theorem dX5_digest_78 : decode cX5_digest 78 = .ok (.goto (-29), 3) := by decide +kernel
theorem dX5_digest_81 : decode cX5_digest 81 = .ok (.iinc 3 1, 3) := by decide +kernel
theorem dX5_digest_84 : decode cX5_digest 84 = .ok (.goto (-46), 3) := by decide +kernel
theorem dX5_digest_87 : decode cX5_digest 87 = .ok (.iconst 0, 1) := by decide +kernel
theorem dX5_digest_88 : decode cX5_digest 88 = .ok (.istore_n 3, 1) := by decide +kernel
theorem dX5_digest_89 : decode cX5_digest 89 = .ok (.iload_n 3, 1) := by decide +kernel
theorem dX5_digest_90 : decode cX5_digest 90 = .ok (.bipush 18, 2) := by decide +kernel
theorem dX5_digest_92 : decode cX5_digest 92 = .ok (.if_icmp .ge 46, 3) := by decide +kernel
theorem dX5_digest_95 : decode cX5_digest 95 = .ok (.iconst 0, 1) := by decide +kernel
theorem dX5_digest_96 : decode cX5_digest 96 = .ok (.istore 4, 2) := by decide +kernel
theorem dX5_digest_98 : decode cX5_digest 98 = .ok (.iload 4, 2) := by decide +kernel
theorem dX5_digest_100 : decode cX5_digest 100 = .ok (.iconst 2, 1) := by decide +kernel
theorem dX5_digest_101 : decode cX5_digest 101 = .ok (.if_icmp .gt 31, 3) := by decide +kernel
theorem dX5_digest_104 : decode cX5_digest 104 = .ok (.lload_n 1, 1) := by decide +kernel
theorem dX5_digest_105 : decode cX5_digest 105 = .ok (.ldc2_w 188, 3) := by decide +kernel
