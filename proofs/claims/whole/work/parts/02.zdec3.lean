theorem dX10_reads_191 : decode cX10_reads 191 = .ok (.bipush 48, 2) := by decide +kernel
theorem dX10_reads_193 : decode cX10_reads 193 = .ok (.isub, 1) := by decide +kernel
theorem dX10_reads_194 : decode cX10_reads 194 = .ok (.goto 7, 3) := by decide +kernel
theorem dX10_reads_197 : decode cX10_reads 197 = .ok (.aload_n 0, 1) := by decide +kernel
theorem dX10_reads_198 : decode cX10_reads 198 = .ok (.getfield 118, 3) := by decide +kernel
theorem dX10_reads_201 : decode cX10_reads 201 = .ok (.putfield 118, 3) := by decide +kernel
theorem dX10_reads_204 : decode cX10_reads 204 = .ok (.aload_n 0, 1) := by decide +kernel
theorem dX10_reads_205 : decode cX10_reads 205 = .ok (.dup, 1) := by decide +kernel
theorem dX10_reads_206 : decode cX10_reads 206 = .ok (.getfield 99, 3) := by decide +kernel
theorem dX10_reads_209 : decode cX10_reads 209 = .ok (.iconst 1, 1) := by decide +kernel
theorem dX10_reads_210 : decode cX10_reads 210 = .ok (.iadd, 1) := by decide +kernel
theorem dX10_reads_211 : decode cX10_reads 211 = .ok (.putfield 99, 3) := by decide +kernel
theorem dX10_reads_214 : decode cX10_reads 214 = .ok (.goto (-74), 3) := by decide +kernel
theorem dX10_reads_217 : decode cX10_reads 217 = .ok (.aload_n 0, 1) := by decide +kernel
theorem dX10_reads_218 : decode cX10_reads 218 = .ok (.aload_n 0, 1) := by decide +kernel
theorem dX10_reads_219 : decode cX10_reads 219 = .ok (.getfield 99, 3) := by decide +kernel
theorem dX10_reads_222 : decode cX10_reads 222 = .ok (.aload_n 0, 1) := by decide +kernel
theorem dX10_reads_223 : decode cX10_reads 223 = .ok (.getfield 90, 3) := by decide +kernel
theorem dX10_reads_226 : decode cX10_reads 226 = .ok (.isub, 1) := by decide +kernel
theorem dX10_reads_227 : decode cX10_reads 227 = .ok (.iconst 2, 1) := by decide +kernel
theorem dX10_reads_228 : decode cX10_reads 228 = .ok (.if_icmp .gt 7, 3) := by decide +kernel
theorem dX10_reads_231 : decode cX10_reads 231 = .ok (.iconst 1, 1) := by decide +kernel
theorem dX10_reads_232 : decode cX10_reads 232 = .ok (.goto 4, 3) := by decide +kernel
theorem dX10_reads_235 : decode cX10_reads 235 = .ok (.iconst 0, 1) := by decide +kernel
theorem dX10_reads_236 : decode cX10_reads 236 = .ok (.iconst 1, 1) := by decide +kernel
theorem dX10_reads_237 : decode cX10_reads 237 = .ok (.invokevirtual 121, 3) := by decide +kernel
theorem dX10_reads_240 : decode cX10_reads 240 = .ok (.goto 46, 3) := by decide +kernel
theorem dX10_reads_243 : decode cX10_reads 243 = .ok (.aload_n 0, 1) := by decide +kernel
theorem dX10_reads_244 : decode cX10_reads 244 = .ok (.iconst 3, 1) := by decide +kernel
theorem dX10_reads_245 : decode cX10_reads 245 = .ok (.putfield 96, 3) := by decide +kernel
theorem dX10_reads_248 : decode cX10_reads 248 = .ok (.aload_n 0, 1) := by decide +kernel
theorem dX10_reads_249 : decode cX10_reads 249 = .ok (.iload_n 1, 1) := by decide +kernel
theorem dX10_reads_250 : decode cX10_reads 250 = .ok (.bipush 59, 2) := by decide +kernel
theorem dX10_reads_252 : decode cX10_reads 252 = .ok (.if_icmp .eq 15, 3) := by decide +kernel
theorem dX10_reads_255 : decode cX10_reads 255 = .ok (.iload_n 1, 1) := by decide +kernel
theorem dX10_reads_256 : decode cX10_reads 256 = .ok (.bipush 60, 2) := by decide +kernel
theorem dX10_reads_258 : decode cX10_reads 258 = .ok (.if_icmp .eq 9, 3) := by decide +kernel
theorem dX10_reads_261 : decode cX10_reads 261 = .ok (.iload_n 1, 1) := by decide +kernel
theorem dX10_reads_262 : decode cX10_reads 262 = .ok (.bipush 61, 2) := by decide +kernel
theorem dX10_reads_264 : decode cX10_reads 264 = .ok (.if_icmp .ne 7, 3) := by decide +kernel
theorem dX10_reads_267 : decode cX10_reads 267 = .ok (.iconst 1, 1) := by decide +kernel
theorem dX10_reads_268 : decode cX10_reads 268 = .ok (.goto 4, 3) := by decide +kernel
theorem dX10_reads_271 : decode cX10_reads 271 = .ok (.iconst 0, 1) := by decide +kernel
theorem dX10_reads_272 : decode cX10_reads 272 = .ok (.iconst 1, 1) := by decide +kernel
theorem dX10_reads_273 : decode cX10_reads 273 = .ok (.invokevirtual 121, 3) := by decide +kernel
theorem dX10_reads_276 : decode cX10_reads 276 = .ok (.aload_n 0, 1) := by decide +kernel
theorem dX10_reads_277 : decode cX10_reads 277 = .ok (.dup, 1) := by decide +kernel
theorem dX10_reads_278 : decode cX10_reads 278 = .ok (.getfield 99, 3) := by decide +kernel
theorem dX10_reads_281 : decode cX10_reads 281 = .ok (.iconst 1, 1) := by decide +kernel
theorem dX10_reads_282 : decode cX10_reads 282 = .ok (.iadd, 1) := by decide +kernel
theorem dX10_reads_283 : decode cX10_reads 283 = .ok (.putfield 99, 3) := by decide +kernel
theorem dX10_reads_286 : decode cX10_reads 286 = .ok (.return_, 1) := by decide +kernel
theorem dX10_isSign_0 : decode cX10_isSign 0 = .ok (.aload_n 0, 1) := by decide +kernel
theorem dX10_isSign_1 : decode cX10_isSign 1 = .ok (.getfield 96, 3) := by decide +kernel
theorem dX10_isSign_4 : decode cX10_isSign 4 = .ok (.iconst 3, 1) := by decide +kernel
theorem dX10_isSign_5 : decode cX10_isSign 5 = .ok (.if_icmp .ne 19, 3) := by decide +kernel
theorem dX10_isSign_8 : decode cX10_isSign 8 = .ok (.aload_n 0, 1) := by decide +kernel
theorem dX10_isSign_9 : decode cX10_isSign 9 = .ok (.aload_n 0, 1) := by decide +kernel
theorem dX10_isSign_10 : decode cX10_isSign 10 = .ok (.getfield 90, 3) := by decide +kernel
theorem dX10_isSign_13 : decode cX10_isSign 13 = .ok (.invokevirtual 102, 3) := by decide +kernel
theorem dX10_isSign_16 : decode cX10_isSign 16 = .ok (.iload_n 1, 1) := by decide +kernel
theorem dX10_isSign_17 : decode cX10_isSign 17 = .ok (.if_icmp .ne 7, 3) := by decide +kernel
theorem dX10_isSign_20 : decode cX10_isSign 20 = .ok (.iconst 1, 1) := by decide +kernel
theorem dX10_isSign_21 : decode cX10_isSign 21 = .ok (.goto 4, 3) := by decide +kernel
theorem dX10_isSign_24 : decode cX10_isSign 24 = .ok (.iconst 0, 1) := by decide +kernel
theorem dX10_isSign_25 : decode cX10_isSign 25 = .ok (.ireturn, 1) := by decide +kernel
theorem dX10_readNumber_0 : decode cX10_readNumber 0 = .ok (.aload_n 0, 1) := by decide +kernel
theorem dX10_readNumber_1 : decode cX10_readNumber 1 = .ok (.getfield 87, 3) := by decide +kernel
theorem dX10_readNumber_4 : decode cX10_readNumber 4 = .ok (.ifCond .ne 21, 3) := by decide +kernel
theorem dX10_readNumber_7 : decode cX10_readNumber 7 = .ok (.aload_n 0, 1) := by decide +kernel
theorem dX10_readNumber_8 : decode cX10_readNumber 8 = .ok (.aload_n 0, 1) := by decide +kernel
theorem dX10_readNumber_9 : decode cX10_readNumber 9 = .ok (.getfield 96, 3) := by decide +kernel
theorem dX10_readNumber_12 : decode cX10_readNumber 12 = .ok (.iconst 2, 1) := by decide +kernel
theorem dX10_readNumber_13 : decode cX10_readNumber 13 = .ok (.if_icmp .ne 7, 3) := by decide +kernel
theorem dX10_readNumber_16 : decode cX10_readNumber 16 = .ok (.iconst 1, 1) := by decide +kernel
theorem dX10_readNumber_17 : decode cX10_readNumber 17 = .ok (.goto 4, 3) := by decide +kernel
theorem dX10_readNumber_20 : decode cX10_readNumber 20 = .ok (.iconst 0, 1) := by decide +kernel
theorem dX10_readNumber_21 : decode cX10_readNumber 21 = .ok (.iconst 2, 1) := by decide +kernel
theorem dX10_readNumber_22 : decode cX10_readNumber 22 = .ok (.invokevirtual 121, 3) := by decide +kernel
theorem dX10_readNumber_25 : decode cX10_readNumber 25 = .ok (.aload_n 0, 1) := by decide +kernel
theorem dX10_readNumber_26 : decode cX10_readNumber 26 = .ok (.getfield 87, 3) := by decide +kernel
theorem dX10_readNumber_29 : decode cX10_readNumber 29 = .ok (.ifCond .ne 21, 3) := by decide +kernel
theorem dX10_readNumber_32 : decode cX10_readNumber 32 = .ok (.aload_n 0, 1) := by decide +kernel
theorem dX10_readNumber_33 : decode cX10_readNumber 33 = .ok (.aload_n 0, 1) := by decide +kernel
theorem dX10_readNumber_34 : decode cX10_readNumber 34 = .ok (.getfield 118, 3) := by decide +kernel
theorem dX10_readNumber_37 : decode cX10_readNumber 37 = .ok (.iload_n 1, 1) := by decide +kernel
theorem dX10_readNumber_38 : decode cX10_readNumber 38 = .ok (.if_icmp .gt 7, 3) := by decide +kernel
theorem dX10_readNumber_41 : decode cX10_readNumber 41 = .ok (.iconst 1, 1) := by decide +kernel
theorem dX10_readNumber_42 : decode cX10_readNumber 42 = .ok (.goto 4, 3) := by decide +kernel
theorem dX10_readNumber_45 : decode cX10_readNumber 45 = .ok (.iconst 0, 1) := by decide +kernel
theorem dX10_readNumber_46 : decode cX10_readNumber 46 = .ok (.iconst 3, 1) := by decide +kernel
theorem dX10_readNumber_47 : decode cX10_readNumber 47 = .ok (.invokevirtual 121, 3) := by decide +kernel
theorem dX10_readNumber_50 : decode cX10_readNumber 50 = .ok (.aload_n 0, 1) := by decide +kernel
theorem dX10_readNumber_51 : decode cX10_readNumber 51 = .ok (.getfield 87, 3) := by decide +kernel
theorem dX10_readNumber_54 : decode cX10_readNumber 54 = .ok (.ifCond .ne 10, 3) := by decide +kernel
theorem dX10_readNumber_57 : decode cX10_readNumber 57 = .ok (.aload_n 0, 1) := by decide +kernel
theorem dX10_readNumber_58 : decode cX10_readNumber 58 = .ok (.getfield 118, 3) := by decide +kernel
theorem dX10_readNumber_61 : decode cX10_readNumber 61 = .ok (.goto 4, 3) := by decide +kernel
theorem dX10_readNumber_64 : decode cX10_readNumber 64 = .ok (.iconst 0, 1) := by decide +kernel
theorem dX10_readNumber_65 : decode cX10_readNumber 65 = .ok (.istore_n 2, 1) := by decide +kernel
theorem dX10_readNumber_66 : decode cX10_readNumber 66 = .ok (.aload_n 0, 1) := by decide +kernel
theorem dX10_readNumber_67 : decode cX10_readNumber 67 = .ok (.invokevirtual 125, 3) := by decide +kernel
theorem dX10_readNumber_70 : decode cX10_readNumber 70 = .ok (.iload_n 2, 1) := by decide +kernel
theorem dX10_readNumber_71 : decode cX10_readNumber 71 = .ok (.ireturn, 1) := by decide +kernel
theorem dX10_isVariableNow_0 : decode cX10_isVariableNow 0 = .ok (.aload_n 0, 1) := by decide +kernel
theorem dX10_isVariableNow_1 : decode cX10_isVariableNow 1 = .ok (.getfield 96, 3) := by decide +kernel
theorem dX10_isVariableNow_4 : decode cX10_isVariableNow 4 = .ok (.iconst 1, 1) := by decide +kernel
theorem dX10_isVariableNow_5 : decode cX10_isVariableNow 5 = .ok (.if_icmp .ne 41, 3) := by decide +kernel
theorem dX10_isVariableNow_8 : decode cX10_isVariableNow 8 = .ok (.aload_n 0, 1) := by decide +kernel
theorem dX10_isVariableNow_9 : decode cX10_isVariableNow 9 = .ok (.getfield 99, 3) := by decide +kernel
theorem dX10_isVariableNow_12 : decode cX10_isVariableNow 12 = .ok (.aload_n 0, 1) := by decide +kernel
theorem dX10_isVariableNow_13 : decode cX10_isVariableNow 13 = .ok (.getfield 90, 3) := by decide +kernel
theorem dX10_isVariableNow_16 : decode cX10_isVariableNow 16 = .ok (.isub, 1) := by decide +kernel
theorem dX10_isVariableNow_17 : decode cX10_isVariableNow 17 = .ok (.iconst 1, 1) := by decide +kernel
theorem dX10_isVariableNow_18 : decode cX10_isVariableNow 18 = .ok (.if_icmp .ne 28, 3) := by decide +kernel
theorem dX10_isVariableNow_21 : decode cX10_isVariableNow 21 = .ok (.aload_n 0, 1) := by decide +kernel
theorem dX10_isVariableNow_22 : decode cX10_isVariableNow 22 = .ok (.aload_n 0, 1) := by decide +kernel
theorem dX10_isVariableNow_23 : decode cX10_isVariableNow 23 = .ok (.getfield 90, 3) := by decide +kernel
theorem dX10_isVariableNow_26 : decode cX10_isVariableNow 26 = .ok (.invokevirtual 102, 3) := by decide +kernel
theorem dX10_isVariableNow_29 : decode cX10_isVariableNow 29 = .ok (.i2l, 1) := by decide +kernel
theorem dX10_isVariableNow_30 : decode cX10_isVariableNow 30 = .ok (.ldc2_w 110, 3) := by decide +kernel
theorem dX10_isVariableNow_33 : decode cX10_isVariableNow 33 = .ok (.ldc2_w 128, 3) := by decide +kernel
theorem dX10_isVariableNow_36 : decode cX10_isVariableNow 36 = .ok (.invokestatic 80, 3) := by decide +kernel
theorem dX10_isVariableNow_39 : decode cX10_isVariableNow 39 = .ok (.ifCond .eq 7, 3) := by decide +kernel
theorem dX10_isVariableNow_42 : decode cX10_isVariableNow 42 = .ok (.iconst 1, 1) := by decide +kernel
theorem dX10_isVariableNow_43 : decode cX10_isVariableNow 43 = .ok (.goto 4, 3) := by decide +kernel
theorem dX10_isVariableNow_46 : decode cX10_isVariableNow 46 = .ok (.iconst 0, 1) := by decide +kernel
theorem dX10_isVariableNow_47 : decode cX10_isVariableNow 47 = .ok (.ireturn, 1) := by decide +kernel
theorem dX10_readVariable_0 : decode cX10_readVariable 0 = .ok (.aload_n 0, 1) := by decide +kernel
theorem dX10_readVariable_1 : decode cX10_readVariable 1 = .ok (.getfield 87, 3) := by decide +kernel
theorem dX10_readVariable_4 : decode cX10_readVariable 4 = .ok (.ifCond .ne 12, 3) := by decide +kernel
theorem dX10_readVariable_7 : decode cX10_readVariable 7 = .ok (.aload_n 0, 1) := by decide +kernel
theorem dX10_readVariable_8 : decode cX10_readVariable 8 = .ok (.aload_n 0, 1) := by decide +kernel
theorem dX10_readVariable_9 : decode cX10_readVariable 9 = .ok (.invokevirtual 130, 3) := by decide +kernel
theorem dX10_readVariable_12 : decode cX10_readVariable 12 = .ok (.iconst 2, 1) := by decide +kernel
theorem dX10_readVariable_13 : decode cX10_readVariable 13 = .ok (.invokevirtual 121, 3) := by decide +kernel
theorem dX10_readVariable_16 : decode cX10_readVariable 16 = .ok (.aload_n 0, 1) := by decide +kernel
theorem dX10_readVariable_17 : decode cX10_readVariable 17 = .ok (.getfield 87, 3) := by decide +kernel
theorem dX10_readVariable_20 : decode cX10_readVariable 20 = .ok (.ifCond .ne 17, 3) := by decide +kernel
theorem dX10_readVariable_23 : decode cX10_readVariable 23 = .ok (.aload_n 0, 1) := by decide +kernel
theorem dX10_readVariable_24 : decode cX10_readVariable 24 = .ok (.aload_n 0, 1) := by decide +kernel
theorem dX10_readVariable_25 : decode cX10_readVariable 25 = .ok (.getfield 90, 3) := by decide +kernel
theorem dX10_readVariable_28 : decode cX10_readVariable 28 = .ok (.invokevirtual 102, 3) := by decide +kernel
theorem dX10_readVariable_31 : decode cX10_readVariable 31 = .ok (.bipush 97, 2) := by decide +kernel
theorem dX10_readVariable_33 : decode cX10_readVariable 33 = .ok (.isub, 1) := by decide +kernel
theorem dX10_readVariable_34 : decode cX10_readVariable 34 = .ok (.goto 4, 3) := by decide +kernel
theorem dX10_readVariable_37 : decode cX10_readVariable 37 = .ok (.iconst 0, 1) := by decide +kernel
theorem dX10_readVariable_38 : decode cX10_readVariable 38 = .ok (.istore_n 1, 1) := by decide +kernel
theorem dX10_readVariable_39 : decode cX10_readVariable 39 = .ok (.aload_n 0, 1) := by decide +kernel
theorem dX10_readVariable_40 : decode cX10_readVariable 40 = .ok (.invokevirtual 125, 3) := by decide +kernel
theorem dX10_readVariable_43 : decode cX10_readVariable 43 = .ok (.iload_n 1, 1) := by decide +kernel
theorem dX10_readVariable_44 : decode cX10_readVariable 44 = .ok (.ireturn, 1) := by decide +kernel
theorem dX10_readAct_0 : decode cX10_readAct 0 = .ok (.iload_n 2, 1) := by decide +kernel
theorem dX10_readAct_1 : decode cX10_readAct 1 = .ok (.iconst 1, 1) := by decide +kernel
theorem dX10_readAct_2 : decode cX10_readAct 2 = .ok (.iadd, 1) := by decide +kernel
theorem dX10_readAct_3 : decode cX10_readAct 3 = .ok (.iconst 3, 1) := by decide +kernel
theorem dX10_readAct_4 : decode cX10_readAct 4 = .ok (.aload_n 0, 1) := by decide +kernel
theorem dX10_readAct_5 : decode cX10_readAct 5 = .ok (.getfield 13, 3) := by decide +kernel
theorem dX10_readAct_8 : decode cX10_readAct 8 = .ok (.iload_n 2, 1) := by decide +kernel
theorem dX10_readAct_9 : decode cX10_readAct 9 = .ok (.iaload, 1) := by decide +kernel
theorem dX10_readAct_10 : decode cX10_readAct 10 = .ok (.imul, 1) := by decide +kernel
theorem dX10_readAct_11 : decode cX10_readAct 11 = .ok (.iadd, 1) := by decide +kernel
theorem dX10_readAct_12 : decode cX10_readAct 12 = .ok (.istore_n 3, 1) := by decide +kernel
theorem dX10_readAct_13 : decode cX10_readAct 13 = .ok (.aload_n 0, 1) := by decide +kernel
theorem dX10_readAct_14 : decode cX10_readAct 14 = .ok (.getfield 13, 3) := by decide +kernel
theorem dX10_readAct_17 : decode cX10_readAct 17 = .ok (.iload_n 2, 1) := by decide +kernel
theorem dX10_readAct_18 : decode cX10_readAct 18 = .ok (.dup2, 1) := by decide +kernel
theorem dX10_readAct_19 : decode cX10_readAct 19 = .ok (.iaload, 1) := by decide +kernel
theorem dX10_readAct_20 : decode cX10_readAct 20 = .ok (.iconst 1, 1) := by decide +kernel
theorem dX10_readAct_21 : decode cX10_readAct 21 = .ok (.iadd, 1) := by decide +kernel
theorem dX10_readAct_22 : decode cX10_readAct 22 = .ok (.iastore, 1) := by decide +kernel
theorem dX10_readAct_23 : decode cX10_readAct 23 = .ok (.aload_n 0, 1) := by decide +kernel
theorem dX10_readAct_24 : decode cX10_readAct 24 = .ok (.getfield 13, 3) := by decide +kernel
theorem dX10_readAct_27 : decode cX10_readAct 27 = .ok (.iload_n 3, 1) := by decide +kernel
theorem dX10_readAct_28 : decode cX10_readAct 28 = .ok (.iload_n 1, 1) := by decide +kernel
theorem dX10_readAct_29 : decode cX10_readAct 29 = .ok (.iastore, 1) := by decide +kernel
theorem dX10_readAct_30 : decode cX10_readAct 30 = .ok (.aload_n 0, 1) := by decide +kernel
theorem dX10_readAct_31 : decode cX10_readAct 31 = .ok (.getfield 13, 3) := by decide +kernel
theorem dX10_readAct_34 : decode cX10_readAct 34 = .ok (.iload_n 3, 1) := by decide +kernel
theorem dX10_readAct_35 : decode cX10_readAct 35 = .ok (.iconst 1, 1) := by decide +kernel
theorem dX10_readAct_36 : decode cX10_readAct 36 = .ok (.iadd, 1) := by decide +kernel
theorem dX10_readAct_37 : decode cX10_readAct 37 = .ok (.aload_n 0, 1) := by decide +kernel
theorem dX10_readAct_38 : decode cX10_readAct 38 = .ok (.invokevirtual 134, 3) := by decide +kernel
theorem dX10_readAct_41 : decode cX10_readAct 41 = .ok (.iastore, 1) := by decide +kernel
theorem dX10_readAct_42 : decode cX10_readAct 42 = .ok (.aload_n 0, 1) := by decide +kernel
theorem dX10_readAct_43 : decode cX10_readAct 43 = .ok (.getfield 13, 3) := by decide +kernel
theorem dX10_readAct_46 : decode cX10_readAct 46 = .ok (.iload_n 3, 1) := by decide +kernel
theorem dX10_readAct_47 : decode cX10_readAct 47 = .ok (.iconst 2, 1) := by decide +kernel
theorem dX10_readAct_48 : decode cX10_readAct 48 = .ok (.iadd, 1) := by decide +kernel
theorem dX10_readAct_49 : decode cX10_readAct 49 = .ok (.iload_n 1, 1) := by decide +kernel
theorem dX10_readAct_50 : decode cX10_readAct 50 = .ok (.iconst 2, 1) := by decide +kernel
theorem dX10_readAct_51 : decode cX10_readAct 51 = .ok (.if_icmp .gt 12, 3) := by decide +kernel
theorem dX10_readAct_54 : decode cX10_readAct 54 = .ok (.aload_n 0, 1) := by decide +kernel
theorem dX10_readAct_55 : decode cX10_readAct 55 = .ok (.bipush 50, 2) := by decide +kernel
theorem dX10_readAct_57 : decode cX10_readAct 57 = .ok (.invokevirtual 138, 3) := by decide +kernel
theorem dX10_readAct_60 : decode cX10_readAct 60 = .ok (.goto 17, 3) := by decide +kernel
theorem dX10_readAct_63 : decode cX10_readAct 63 = .ok (.iload_n 1, 1) := by decide +kernel
theorem dX10_readAct_64 : decode cX10_readAct 64 = .ok (.iconst 3, 1) := by decide +kernel
theorem dX10_readAct_65 : decode cX10_readAct 65 = .ok (.if_icmp .ne 10, 3) := by decide +kernel
theorem dX10_readAct_68 : decode cX10_readAct 68 = .ok (.aload_n 0, 1) := by decide +kernel
theorem dX10_readAct_69 : decode cX10_readAct 69 = .ok (.invokevirtual 134, 3) := by decide +kernel
theorem dX10_readAct_72 : decode cX10_readAct 72 = .ok (.goto 5, 3) := by decide +kernel
theorem dX10_readAct_75 : decode cX10_readAct 75 = .ok (.bipush (-4), 2) := by decide +kernel
theorem dX10_readAct_77 : decode cX10_readAct 77 = .ok (.iastore, 1) := by decide +kernel
theorem dX10_readAct_78 : decode cX10_readAct 78 = .ok (.return_, 1) := by decide +kernel
theorem dX10_readTest_0 : decode cX10_readTest 0 = .ok (.aload_n 0, 1) := by decide +kernel
theorem dX10_readTest_1 : decode cX10_readTest 1 = .ok (.getfield 13, 3) := by decide +kernel
theorem dX10_readTest_4 : decode cX10_readTest 4 = .ok (.iload_n 1, 1) := by decide +kernel
theorem dX10_readTest_5 : decode cX10_readTest 5 = .ok (.bipush 16, 2) := by decide +kernel
theorem dX10_readTest_7 : decode cX10_readTest 7 = .ok (.iadd, 1) := by decide +kernel
theorem dX10_readTest_8 : decode cX10_readTest 8 = .ok (.aload_n 0, 1) := by decide +kernel
theorem dX10_readTest_9 : decode cX10_readTest 9 = .ok (.invokevirtual 134, 3) := by decide +kernel
theorem dX10_readTest_12 : decode cX10_readTest 12 = .ok (.iastore, 1) := by decide +kernel
theorem dX10_readTest_13 : decode cX10_readTest 13 = .ok (.aload_n 0, 1) := by decide +kernel
theorem dX10_readTest_14 : decode cX10_readTest 14 = .ok (.getfield 87, 3) := by decide +kernel
theorem dX10_readTest_17 : decode cX10_readTest 17 = .ok (.ifCond .ne 31, 3) := by decide +kernel
theorem dX10_readTest_20 : decode cX10_readTest 20 = .ok (.aload_n 0, 1) := by decide +kernel
theorem dX10_readTest_21 : decode cX10_readTest 21 = .ok (.aload_n 0, 1) := by decide +kernel
theorem dX10_readTest_22 : decode cX10_readTest 22 = .ok (.bipush 60, 2) := by decide +kernel
theorem dX10_readTest_24 : decode cX10_readTest 24 = .ok (.invokevirtual 141, 3) := by decide +kernel
theorem dX10_readTest_27 : decode cX10_readTest 27 = .ok (.ifCond .ne 12, 3) := by decide +kernel
theorem dX10_readTest_30 : decode cX10_readTest 30 = .ok (.aload_n 0, 1) := by decide +kernel
theorem dX10_readTest_31 : decode cX10_readTest 31 = .ok (.bipush 61, 2) := by decide +kernel
theorem dX10_readTest_33 : decode cX10_readTest 33 = .ok (.invokevirtual 141, 3) := by decide +kernel
theorem dX10_readTest_36 : decode cX10_readTest 36 = .ok (.ifCond .eq 7, 3) := by decide +kernel
theorem dX10_readTest_39 : decode cX10_readTest 39 = .ok (.iconst 1, 1) := by decide +kernel
theorem dX10_readTest_40 : decode cX10_readTest 40 = .ok (.goto 4, 3) := by decide +kernel
theorem dX10_readTest_43 : decode cX10_readTest 43 = .ok (.iconst 0, 1) := by decide +kernel
theorem dX10_readTest_44 : decode cX10_readTest 44 = .ok (.iconst 2, 1) := by decide +kernel
theorem dX10_readTest_45 : decode cX10_readTest 45 = .ok (.invokevirtual 121, 3) := by decide +kernel
theorem dX10_readTest_48 : decode cX10_readTest 48 = .ok (.aload_n 0, 1) := by decide +kernel
theorem dX10_readTest_49 : decode cX10_readTest 49 = .ok (.getfield 13, 3) := by decide +kernel
theorem dX10_readTest_52 : decode cX10_readTest 52 = .ok (.iload_n 1, 1) := by decide +kernel
theorem dX10_readTest_53 : decode cX10_readTest 53 = .ok (.bipush 13, 2) := by decide +kernel
theorem dX10_readTest_55 : decode cX10_readTest 55 = .ok (.iadd, 1) := by decide +kernel
theorem dX10_readTest_56 : decode cX10_readTest 56 = .ok (.aload_n 0, 1) := by decide +kernel
theorem dX10_readTest_57 : decode cX10_readTest 57 = .ok (.getfield 87, 3) := by decide +kernel
theorem dX10_readTest_60 : decode cX10_readTest 60 = .ok (.ifCond .ne 16, 3) := by decide +kernel
theorem dX10_readTest_63 : decode cX10_readTest 63 = .ok (.aload_n 0, 1) := by decide +kernel
theorem dX10_readTest_64 : decode cX10_readTest 64 = .ok (.bipush 60, 2) := by decide +kernel
theorem dX10_readTest_66 : decode cX10_readTest 66 = .ok (.invokevirtual 141, 3) := by decide +kernel
theorem dX10_readTest_69 : decode cX10_readTest 69 = .ok (.ifCond .eq 7, 3) := by decide +kernel
theorem dX10_readTest_72 : decode cX10_readTest 72 = .ok (.iconst 2, 1) := by decide +kernel
theorem dX10_readTest_73 : decode cX10_readTest 73 = .ok (.goto 4, 3) := by decide +kernel
theorem dX10_readTest_76 : decode cX10_readTest 76 = .ok (.iconst 3, 1) := by decide +kernel
theorem dX10_readTest_77 : decode cX10_readTest 77 = .ok (.iastore, 1) := by decide +kernel
theorem dX10_readTest_78 : decode cX10_readTest 78 = .ok (.aload_n 0, 1) := by decide +kernel
theorem dX10_readTest_79 : decode cX10_readTest 79 = .ok (.invokevirtual 125, 3) := by decide +kernel
theorem dX10_readTest_82 : decode cX10_readTest 82 = .ok (.aload_n 0, 1) := by decide +kernel
theorem dX10_readTest_83 : decode cX10_readTest 83 = .ok (.getfield 87, 3) := by decide +kernel
theorem dX10_readTest_86 : decode cX10_readTest 86 = .ok (.ifCond .ne 15, 3) := by decide +kernel
theorem dX10_readTest_89 : decode cX10_readTest 89 = .ok (.aload_n 0, 1) := by decide +kernel
theorem dX10_readTest_90 : decode cX10_readTest 90 = .ok (.getfield 96, 3) := by decide +kernel
theorem dX10_readTest_93 : decode cX10_readTest 93 = .ok (.iconst 1, 1) := by decide +kernel
theorem dX10_readTest_94 : decode cX10_readTest 94 = .ok (.if_icmp .ne 7, 3) := by decide +kernel
theorem dX10_readTest_97 : decode cX10_readTest 97 = .ok (.iconst 1, 1) := by decide +kernel
theorem dX10_readTest_98 : decode cX10_readTest 98 = .ok (.goto 4, 3) := by decide +kernel
theorem dX10_readTest_101 : decode cX10_readTest 101 = .ok (.iconst 0, 1) := by decide +kernel
theorem dX10_readTest_102 : decode cX10_readTest 102 = .ok (.istore_n 2, 1) := by decide +kernel
theorem dX10_readTest_103 : decode cX10_readTest 103 = .ok (.aload_n 0, 1) := by decide +kernel
theorem dX10_readTest_104 : decode cX10_readTest 104 = .ok (.getfield 13, 3) := by decide +kernel
theorem dX10_readTest_107 : decode cX10_readTest 107 = .ok (.iload_n 1, 1) := by decide +kernel
theorem dX10_readTest_108 : decode cX10_readTest 108 = .ok (.bipush 17, 2) := by decide +kernel
theorem dX10_readTest_110 : decode cX10_readTest 110 = .ok (.iadd, 1) := by decide +kernel
theorem dX10_readTest_111 : decode cX10_readTest 111 = .ok (.iload_n 2, 1) := by decide +kernel
theorem dX10_readTest_112 : decode cX10_readTest 112 = .ok (.invokestatic 145, 3) := by decide +kernel
theorem dX10_readTest_115 : decode cX10_readTest 115 = .ok (.iastore, 1) := by decide +kernel
theorem dX10_readTest_116 : decode cX10_readTest 116 = .ok (.aload_n 0, 1) := by decide +kernel
theorem dX10_readTest_117 : decode cX10_readTest 117 = .ok (.getfield 13, 3) := by decide +kernel
theorem dX10_readTest_120 : decode cX10_readTest 120 = .ok (.iload_n 1, 1) := by decide +kernel
theorem dX10_readTest_121 : decode cX10_readTest 121 = .ok (.bipush 18, 2) := by decide +kernel
theorem dX10_readTest_123 : decode cX10_readTest 123 = .ok (.iadd, 1) := by decide +kernel
theorem dX10_readTest_124 : decode cX10_readTest 124 = .ok (.iload_n 2, 1) := by decide +kernel
theorem dX10_readTest_125 : decode cX10_readTest 125 = .ok (.ifCond .eq 10, 3) := by decide +kernel
theorem dX10_readTest_128 : decode cX10_readTest 128 = .ok (.aload_n 0, 1) := by decide +kernel
theorem dX10_readTest_129 : decode cX10_readTest 129 = .ok (.invokevirtual 134, 3) := by decide +kernel
theorem dX10_readTest_132 : decode cX10_readTest 132 = .ok (.goto 9, 3) := by decide +kernel
theorem dX10_readTest_135 : decode cX10_readTest 135 = .ok (.aload_n 0, 1) := by decide +kernel
theorem dX10_readTest_136 : decode cX10_readTest 136 = .ok (.bipush 50, 2) := by decide +kernel
theorem dX10_readTest_138 : decode cX10_readTest 138 = .ok (.invokevirtual 138, 3) := by decide +kernel
theorem dX10_readTest_141 : decode cX10_readTest 141 = .ok (.iastore, 1) := by decide +kernel
theorem dX10_readTest_142 : decode cX10_readTest 142 = .ok (.aload_n 0, 1) := by decide +kernel
theorem dX10_readTest_143 : decode cX10_readTest 143 = .ok (.getfield 13, 3) := by decide +kernel
theorem dX10_readTest_146 : decode cX10_readTest 146 = .ok (.iload_n 1, 1) := by decide +kernel
theorem dX10_readTest_147 : decode cX10_readTest 147 = .ok (.bipush 14, 2) := by decide +kernel
theorem dX10_readTest_149 : decode cX10_readTest 149 = .ok (.iadd, 1) := by decide +kernel
theorem dX10_readTest_150 : decode cX10_readTest 150 = .ok (.aload_n 0, 1) := by decide +kernel
theorem dX10_readTest_151 : decode cX10_readTest 151 = .ok (.bipush 7, 2) := by decide +kernel
theorem dX10_readTest_153 : decode cX10_readTest 153 = .ok (.invokevirtual 138, 3) := by decide +kernel
theorem dX10_readTest_156 : decode cX10_readTest 156 = .ok (.iastore, 1) := by decide +kernel
theorem dX10_readTest_157 : decode cX10_readTest 157 = .ok (.aload_n 0, 1) := by decide +kernel
theorem dX10_readTest_158 : decode cX10_readTest 158 = .ok (.getfield 13, 3) := by decide +kernel
theorem dX10_readTest_161 : decode cX10_readTest 161 = .ok (.iload_n 1, 1) := by decide +kernel
theorem dX10_readTest_162 : decode cX10_readTest 162 = .ok (.bipush 14, 2) := by decide +kernel
theorem dX10_readTest_164 : decode cX10_readTest 164 = .ok (.iadd, 1) := by decide +kernel
theorem dX10_readTest_165 : decode cX10_readTest 165 = .ok (.iconst 1, 1) := by decide +kernel
theorem dX10_readTest_166 : decode cX10_readTest 166 = .ok (.iadd, 1) := by decide +kernel
theorem dX10_readTest_167 : decode cX10_readTest 167 = .ok (.aload_n 0, 1) := by decide +kernel
theorem dX10_readTest_168 : decode cX10_readTest 168 = .ok (.bipush 7, 2) := by decide +kernel
theorem dX10_readTest_170 : decode cX10_readTest 170 = .ok (.invokevirtual 138, 3) := by decide +kernel
theorem dX10_readTest_173 : decode cX10_readTest 173 = .ok (.iastore, 1) := by decide +kernel
theorem dX10_readTest_174 : decode cX10_readTest 174 = .ok (.return_, 1) := by decide +kernel
theorem dX10_noTest_0 : decode cX10_noTest 0 = .ok (.aload_n 1, 1) := by decide +kernel
theorem dX10_noTest_1 : decode cX10_noTest 1 = .ok (.iload_n 2, 1) := by decide +kernel
theorem dX10_noTest_2 : decode cX10_noTest 2 = .ok (.bipush 14, 2) := by decide +kernel
theorem dX10_noTest_4 : decode cX10_noTest 4 = .ok (.iadd, 1) := by decide +kernel
theorem dX10_noTest_5 : decode cX10_noTest 5 = .ok (.bipush (-4), 2) := by decide +kernel
theorem dX10_noTest_7 : decode cX10_noTest 7 = .ok (.iastore, 1) := by decide +kernel
theorem dX10_noTest_8 : decode cX10_noTest 8 = .ok (.aload_n 1, 1) := by decide +kernel
theorem dX10_noTest_9 : decode cX10_noTest 9 = .ok (.iload_n 2, 1) := by decide +kernel
theorem dX10_noTest_10 : decode cX10_noTest 10 = .ok (.bipush 14, 2) := by decide +kernel
theorem dX10_noTest_12 : decode cX10_noTest 12 = .ok (.iadd, 1) := by decide +kernel
theorem dX10_noTest_13 : decode cX10_noTest 13 = .ok (.iconst 1, 1) := by decide +kernel
theorem dX10_noTest_14 : decode cX10_noTest 14 = .ok (.iadd, 1) := by decide +kernel
theorem dX10_noTest_15 : decode cX10_noTest 15 = .ok (.bipush (-4), 2) := by decide +kernel
theorem dX10_noTest_17 : decode cX10_noTest 17 = .ok (.iastore, 1) := by decide +kernel
theorem dX10_noTest_18 : decode cX10_noTest 18 = .ok (.aload_n 1, 1) := by decide +kernel
theorem dX10_noTest_19 : decode cX10_noTest 19 = .ok (.iload_n 2, 1) := by decide +kernel
theorem dX10_noTest_20 : decode cX10_noTest 20 = .ok (.bipush 16, 2) := by decide +kernel
theorem dX10_noTest_22 : decode cX10_noTest 22 = .ok (.iadd, 1) := by decide +kernel
theorem dX10_noTest_23 : decode cX10_noTest 23 = .ok (.bipush (-4), 2) := by decide +kernel
theorem dX10_noTest_25 : decode cX10_noTest 25 = .ok (.iastore, 1) := by decide +kernel
theorem dX10_noTest_26 : decode cX10_noTest 26 = .ok (.aload_n 1, 1) := by decide +kernel
theorem dX10_noTest_27 : decode cX10_noTest 27 = .ok (.iload_n 2, 1) := by decide +kernel
theorem dX10_noTest_28 : decode cX10_noTest 28 = .ok (.bipush 17, 2) := by decide +kernel
theorem dX10_noTest_30 : decode cX10_noTest 30 = .ok (.iadd, 1) := by decide +kernel
theorem dX10_noTest_31 : decode cX10_noTest 31 = .ok (.bipush (-4), 2) := by decide +kernel
theorem dX10_noTest_33 : decode cX10_noTest 33 = .ok (.iastore, 1) := by decide +kernel
theorem dX10_noTest_34 : decode cX10_noTest 34 = .ok (.aload_n 1, 1) := by decide +kernel
theorem dX10_noTest_35 : decode cX10_noTest 35 = .ok (.iload_n 2, 1) := by decide +kernel
theorem dX10_noTest_36 : decode cX10_noTest 36 = .ok (.bipush 18, 2) := by decide +kernel
theorem dX10_noTest_38 : decode cX10_noTest 38 = .ok (.iadd, 1) := by decide +kernel
theorem dX10_noTest_39 : decode cX10_noTest 39 = .ok (.bipush (-4), 2) := by decide +kernel
theorem dX10_noTest_41 : decode cX10_noTest 41 = .ok (.iastore, 1) := by decide +kernel
theorem dX10_noTest_42 : decode cX10_noTest 42 = .ok (.return_, 1) := by decide +kernel
theorem dX10_readBlock_0 : decode cX10_readBlock 0 = .ok (.aload_n 0, 1) := by decide +kernel
theorem dX10_readBlock_1 : decode cX10_readBlock 1 = .ok (.getfield 13, 3) := by decide +kernel
theorem dX10_readBlock_4 : decode cX10_readBlock 4 = .ok (.iconst 0, 1) := by decide +kernel
theorem dX10_readBlock_5 : decode cX10_readBlock 5 = .ok (.iaload, 1) := by decide +kernel
theorem dX10_readBlock_6 : decode cX10_readBlock 6 = .ok (.istore_n 1, 1) := by decide +kernel
theorem dX10_readBlock_7 : decode cX10_readBlock 7 = .ok (.aload_n 0, 1) := by decide +kernel
theorem dX10_readBlock_8 : decode cX10_readBlock 8 = .ok (.aload_n 0, 1) := by decide +kernel
theorem dX10_readBlock_9 : decode cX10_readBlock 9 = .ok (.getfield 96, 3) := by decide +kernel
theorem dX10_readBlock_12 : decode cX10_readBlock 12 = .ok (.iconst 1, 1) := by decide +kernel
theorem dX10_readBlock_13 : decode cX10_readBlock 13 = .ok (.if_icmp .ne 7, 3) := by decide +kernel
theorem dX10_readBlock_16 : decode cX10_readBlock 16 = .ok (.iconst 1, 1) := by decide +kernel
theorem dX10_readBlock_17 : decode cX10_readBlock 17 = .ok (.goto 4, 3) := by decide +kernel
theorem dX10_readBlock_20 : decode cX10_readBlock 20 = .ok (.iconst 0, 1) := by decide +kernel
theorem dX10_readBlock_21 : decode cX10_readBlock 21 = .ok (.iconst 2, 1) := by decide +kernel
theorem dX10_readBlock_22 : decode cX10_readBlock 22 = .ok (.invokevirtual 121, 3) := by decide +kernel
theorem dX10_readBlock_25 : decode cX10_readBlock 25 = .ok (.aload_n 0, 1) := by decide +kernel
theorem dX10_readBlock_26 : decode cX10_readBlock 26 = .ok (.iload_n 1, 1) := by decide +kernel
theorem dX10_readBlock_27 : decode cX10_readBlock 27 = .ok (.bipush 8, 2) := by decide +kernel
theorem dX10_readBlock_29 : decode cX10_readBlock 29 = .ok (.if_icmp .ge 7, 3) := by decide +kernel
theorem dX10_readBlock_32 : decode cX10_readBlock 32 = .ok (.iconst 1, 1) := by decide +kernel
theorem dX10_readBlock_33 : decode cX10_readBlock 33 = .ok (.goto 4, 3) := by decide +kernel
theorem dX10_readBlock_36 : decode cX10_readBlock 36 = .ok (.iconst 0, 1) := by decide +kernel
theorem dX10_readBlock_37 : decode cX10_readBlock 37 = .ok (.iconst 5, 1) := by decide +kernel
theorem dX10_readBlock_38 : decode cX10_readBlock 38 = .ok (.invokevirtual 121, 3) := by decide +kernel
theorem dX10_readBlock_41 : decode cX10_readBlock 41 = .ok (.iconst 1, 1) := by decide +kernel
theorem dX10_readBlock_42 : decode cX10_readBlock 42 = .ok (.bipush 20, 2) := by decide +kernel
theorem dX10_readBlock_44 : decode cX10_readBlock 44 = .ok (.iload_n 1, 1) := by decide +kernel
theorem dX10_readBlock_45 : decode cX10_readBlock 45 = .ok (.bipush 8, 2) := by decide +kernel
theorem dX10_readBlock_47 : decode cX10_readBlock 47 = .ok (.if_icmp .ge 7, 3) := by decide +kernel
theorem dX10_readBlock_50 : decode cX10_readBlock 50 = .ok (.iload_n 1, 1) := by decide +kernel
theorem dX10_readBlock_51 : decode cX10_readBlock 51 = .ok (.goto 4, 3) := by decide +kernel
theorem dX10_readBlock_54 : decode cX10_readBlock 54 = .ok (.iconst 0, 1) := by decide +kernel
theorem dX10_readBlock_55 : decode cX10_readBlock 55 = .ok (.imul, 1) := by decide +kernel
theorem dX10_readBlock_56 : decode cX10_readBlock 56 = .ok (.iadd, 1) := by decide +kernel
theorem dX10_readBlock_57 : decode cX10_readBlock 57 = .ok (.istore_n 2, 1) := by decide +kernel
theorem dX10_readBlock_58 : decode cX10_readBlock 58 = .ok (.aload_n 0, 1) := by decide +kernel
theorem dX10_readBlock_59 : decode cX10_readBlock 59 = .ok (.getfield 87, 3) := by decide +kernel
theorem dX10_readBlock_62 : decode cX10_readBlock 62 = .ok (.ifCond .le 4, 3) := by decide +kernel
theorem dX10_readBlock_65 : decode cX10_readBlock 65 = .ok (.return_, 1) := by decide +kernel
theorem dX10_readBlock_66 : decode cX10_readBlock 66 = .ok (.aload_n 0, 1) := by decide +kernel
theorem dX10_readBlock_67 : decode cX10_readBlock 67 = .ok (.getfield 13, 3) := by decide +kernel
theorem dX10_readBlock_70 : decode cX10_readBlock 70 = .ok (.iload_n 2, 1) := by decide +kernel
theorem dX10_readBlock_71 : decode cX10_readBlock 71 = .ok (.iconst 0, 1) := by decide +kernel
theorem dX10_readBlock_72 : decode cX10_readBlock 72 = .ok (.iastore, 1) := by decide +kernel
theorem dX10_readBlock_73 : decode cX10_readBlock 73 = .ok (.aload_n 0, 1) := by decide +kernel
theorem dX10_readBlock_74 : decode cX10_readBlock 74 = .ok (.getfield 13, 3) := by decide +kernel
theorem dX10_readBlock_77 : decode cX10_readBlock 77 = .ok (.iload_n 2, 1) := by decide +kernel
theorem dX10_readBlock_78 : decode cX10_readBlock 78 = .ok (.bipush 19, 2) := by decide +kernel
theorem dX10_readBlock_80 : decode cX10_readBlock 80 = .ok (.iadd, 1) := by decide +kernel
theorem dX10_readBlock_81 : decode cX10_readBlock 81 = .ok (.iload_n 1, 1) := by decide +kernel
theorem dX10_readBlock_82 : decode cX10_readBlock 82 = .ok (.iastore, 1) := by decide +kernel
theorem dX10_readBlock_83 : decode cX10_readBlock 83 = .ok (.aload_n 0, 1) := by decide +kernel
theorem dX10_readBlock_84 : decode cX10_readBlock 84 = .ok (.aload_n 0, 1) := by decide +kernel
theorem dX10_readBlock_85 : decode cX10_readBlock 85 = .ok (.getfield 13, 3) := by decide +kernel
theorem dX10_readBlock_88 : decode cX10_readBlock 88 = .ok (.iload_n 2, 1) := by decide +kernel
theorem dX10_readBlock_89 : decode cX10_readBlock 89 = .ok (.invokevirtual 149, 3) := by decide +kernel
theorem dX10_readBlock_92 : decode cX10_readBlock 92 = .ok (.aload_n 0, 1) := by decide +kernel
theorem dX10_readBlock_93 : decode cX10_readBlock 93 = .ok (.invokevirtual 153, 3) := by decide +kernel
theorem dX10_readBlock_96 : decode cX10_readBlock 96 = .ok (.istore_n 3, 1) := by decide +kernel
theorem dX10_readBlock_97 : decode cX10_readBlock 97 = .ok (.aload_n 0, 1) := by decide +kernel
theorem dX10_readBlock_98 : decode cX10_readBlock 98 = .ok (.getfield 87, 3) := by decide +kernel
theorem dX10_readBlock_101 : decode cX10_readBlock 101 = .ok (.ifCond .ne 71, 3) := by decide +kernel
theorem dX10_readBlock_104 : decode cX10_readBlock 104 = .ok (.iload_n 3, 1) := by decide +kernel
theorem dX10_readBlock_105 : decode cX10_readBlock 105 = .ok (.bipush (-4), 2) := by decide +kernel
theorem dX10_readBlock_107 : decode cX10_readBlock 107 = .ok (.if_icmp .eq 65, 3) := by decide +kernel
theorem dX10_readBlock_110 : decode cX10_readBlock 110 = .ok (.iload_n 3, 1) := by decide +kernel
theorem dX10_readBlock_111 : decode cX10_readBlock 111 = .ok (.iconst 5, 1) := by decide +kernel
theorem dX10_readBlock_112 : decode cX10_readBlock 112 = .ok (.if_icmp .gt 60, 3) := by decide +kernel
theorem dX10_readBlock_115 : decode cX10_readBlock 115 = .ok (.aload_n 0, 1) := by decide +kernel
theorem dX10_readBlock_116 : decode cX10_readBlock 116 = .ok (.aload_n 0, 1) := by decide +kernel
theorem dX10_readBlock_117 : decode cX10_readBlock 117 = .ok (.getfield 13, 3) := by decide +kernel
theorem dX10_readBlock_120 : decode cX10_readBlock 120 = .ok (.iload_n 2, 1) := by decide +kernel
theorem dX10_readBlock_121 : decode cX10_readBlock 121 = .ok (.iaload, 1) := by decide +kernel
theorem dX10_readBlock_122 : decode cX10_readBlock 122 = .ok (.iconst 4, 1) := by decide +kernel
theorem dX10_readBlock_123 : decode cX10_readBlock 123 = .ok (.if_icmp .ge 7, 3) := by decide +kernel
theorem dX10_readBlock_126 : decode cX10_readBlock 126 = .ok (.iconst 1, 1) := by decide +kernel
theorem dX10_readBlock_127 : decode cX10_readBlock 127 = .ok (.goto 4, 3) := by decide +kernel
theorem dX10_readBlock_130 : decode cX10_readBlock 130 = .ok (.iconst 0, 1) := by decide +kernel
theorem dX10_readBlock_131 : decode cX10_readBlock 131 = .ok (.iconst 5, 1) := by decide +kernel
theorem dX10_readBlock_132 : decode cX10_readBlock 132 = .ok (.invokevirtual 121, 3) := by decide +kernel
theorem dX10_readBlock_135 : decode cX10_readBlock 135 = .ok (.aload_n 0, 1) := by decide +kernel
theorem dX10_readBlock_136 : decode cX10_readBlock 136 = .ok (.invokevirtual 125, 3) := by decide +kernel
theorem dX10_readBlock_139 : decode cX10_readBlock 139 = .ok (.aload_n 0, 1) := by decide +kernel
theorem dX10_readBlock_140 : decode cX10_readBlock 140 = .ok (.getfield 87, 3) := by decide +kernel
theorem dX10_readBlock_143 : decode cX10_readBlock 143 = .ok (.ifCond .ne 9, 3) := by decide +kernel
theorem dX10_readBlock_146 : decode cX10_readBlock 146 = .ok (.aload_n 0, 1) := by decide +kernel
theorem dX10_readBlock_147 : decode cX10_readBlock 147 = .ok (.iload_n 3, 1) := by decide +kernel
theorem dX10_readBlock_148 : decode cX10_readBlock 148 = .ok (.iload_n 2, 1) := by decide +kernel
theorem dX10_readBlock_149 : decode cX10_readBlock 149 = .ok (.invokevirtual 156, 3) := by decide +kernel
theorem dX10_readBlock_152 : decode cX10_readBlock 152 = .ok (.aload_n 0, 1) := by decide +kernel
theorem dX10_readBlock_153 : decode cX10_readBlock 153 = .ok (.getfield 87, 3) := by decide +kernel
theorem dX10_readBlock_156 : decode cX10_readBlock 156 = .ok (.ifCond .ne 10, 3) := by decide +kernel
theorem dX10_readBlock_159 : decode cX10_readBlock 159 = .ok (.aload_n 0, 1) := by decide +kernel
theorem dX10_readBlock_160 : decode cX10_readBlock 160 = .ok (.invokevirtual 153, 3) := by decide +kernel
theorem dX10_readBlock_163 : decode cX10_readBlock 163 = .ok (.goto 5, 3) := by decide +kernel
theorem dX10_readBlock_166 : decode cX10_readBlock 166 = .ok (.bipush (-4), 2) := by decide +kernel
theorem dX10_readBlock_168 : decode cX10_readBlock 168 = .ok (.istore_n 3, 1) := by decide +kernel
theorem dX10_readBlock_169 : decode cX10_readBlock 169 = .ok (.goto (-72), 3) := by decide +kernel
theorem dX10_readBlock_172 : decode cX10_readBlock 172 = .ok (.aload_n 0, 1) := by decide +kernel
theorem dX10_readBlock_173 : decode cX10_readBlock 173 = .ok (.getfield 87, 3) := by decide +kernel
theorem dX10_readBlock_176 : decode cX10_readBlock 176 = .ok (.ifCond .ne 19, 3) := by decide +kernel
theorem dX10_readBlock_179 : decode cX10_readBlock 179 = .ok (.aload_n 0, 1) := by decide +kernel
theorem dX10_readBlock_180 : decode cX10_readBlock 180 = .ok (.iload_n 3, 1) := by decide +kernel
theorem dX10_readBlock_181 : decode cX10_readBlock 181 = .ok (.bipush (-4), 2) := by decide +kernel
theorem dX10_readBlock_183 : decode cX10_readBlock 183 = .ok (.if_icmp .eq 7, 3) := by decide +kernel
theorem dX10_readBlock_186 : decode cX10_readBlock 186 = .ok (.iconst 1, 1) := by decide +kernel
theorem dX10_readBlock_187 : decode cX10_readBlock 187 = .ok (.goto 4, 3) := by decide +kernel
theorem dX10_readBlock_190 : decode cX10_readBlock 190 = .ok (.iconst 0, 1) := by decide +kernel
theorem dX10_readBlock_191 : decode cX10_readBlock 191 = .ok (.iconst 2, 1) := by decide +kernel
theorem dX10_readBlock_192 : decode cX10_readBlock 192 = .ok (.invokevirtual 121, 3) := by decide +kernel
theorem dX10_readBlock_195 : decode cX10_readBlock 195 = .ok (.aload_n 0, 1) := by decide +kernel
theorem dX10_readBlock_196 : decode cX10_readBlock 196 = .ok (.invokevirtual 125, 3) := by decide +kernel
theorem dX10_readBlock_199 : decode cX10_readBlock 199 = .ok (.aload_n 0, 1) := by decide +kernel
theorem dX10_readBlock_200 : decode cX10_readBlock 200 = .ok (.getfield 87, 3) := by decide +kernel
theorem dX10_readBlock_203 : decode cX10_readBlock 203 = .ok (.ifCond .le 4, 3) := by decide +kernel
theorem dX10_readBlock_206 : decode cX10_readBlock 206 = .ok (.return_, 1) := by decide +kernel
theorem dX10_readBlock_207 : decode cX10_readBlock 207 = .ok (.iload_n 3, 1) := by decide +kernel
theorem dX10_readBlock_208 : decode cX10_readBlock 208 = .ok (.bipush 8, 2) := by decide +kernel
theorem dX10_readBlock_210 : decode cX10_readBlock 210 = .ok (.if_icmp .ne 11, 3) := by decide +kernel
theorem dX10_readBlock_213 : decode cX10_readBlock 213 = .ok (.aload_n 0, 1) := by decide +kernel
theorem dX10_readBlock_214 : decode cX10_readBlock 214 = .ok (.iload_n 2, 1) := by decide +kernel
theorem dX10_readBlock_215 : decode cX10_readBlock 215 = .ok (.invokevirtual 159, 3) := by decide +kernel
theorem dX10_readBlock_218 : decode cX10_readBlock 218 = .ok (.goto 49, 3) := by decide +kernel
theorem dX10_readBlock_221 : decode cX10_readBlock 221 = .ok (.aload_n 0, 1) := by decide +kernel
theorem dX10_readBlock_222 : decode cX10_readBlock 222 = .ok (.getfield 13, 3) := by decide +kernel
theorem dX10_readBlock_225 : decode cX10_readBlock 225 = .ok (.iload_n 2, 1) := by decide +kernel
theorem dX10_readBlock_226 : decode cX10_readBlock 226 = .ok (.bipush 13, 2) := by decide +kernel
theorem dX10_readBlock_228 : decode cX10_readBlock 228 = .ok (.iadd, 1) := by decide +kernel
theorem dX10_readBlock_229 : decode cX10_readBlock 229 = .ok (.iload_n 3, 1) := by decide +kernel
theorem dX10_readBlock_230 : decode cX10_readBlock 230 = .ok (.bipush 7, 2) := by decide +kernel
theorem dX10_readBlock_232 : decode cX10_readBlock 232 = .ok (.if_icmp .ne 7, 3) := by decide +kernel
theorem dX10_readBlock_235 : decode cX10_readBlock 235 = .ok (.iconst 1, 1) := by decide +kernel
theorem dX10_readBlock_236 : decode cX10_readBlock 236 = .ok (.goto 4, 3) := by decide +kernel
theorem dX10_readBlock_239 : decode cX10_readBlock 239 = .ok (.iconst 0, 1) := by decide +kernel
theorem dX10_readBlock_240 : decode cX10_readBlock 240 = .ok (.iastore, 1) := by decide +kernel
theorem dX10_readBlock_241 : decode cX10_readBlock 241 = .ok (.aload_n 0, 1) := by decide +kernel
theorem dX10_readBlock_242 : decode cX10_readBlock 242 = .ok (.getfield 13, 3) := by decide +kernel
theorem dX10_readBlock_245 : decode cX10_readBlock 245 = .ok (.iload_n 2, 1) := by decide +kernel
theorem dX10_readBlock_246 : decode cX10_readBlock 246 = .ok (.bipush 14, 2) := by decide +kernel
theorem dX10_readBlock_248 : decode cX10_readBlock 248 = .ok (.iadd, 1) := by decide +kernel
theorem dX10_readBlock_249 : decode cX10_readBlock 249 = .ok (.iload_n 3, 1) := by decide +kernel
theorem dX10_readBlock_250 : decode cX10_readBlock 250 = .ok (.bipush 7, 2) := by decide +kernel
theorem dX10_readBlock_252 : decode cX10_readBlock 252 = .ok (.if_icmp .ne 12, 3) := by decide +kernel
theorem dX10_readBlock_255 : decode cX10_readBlock 255 = .ok (.aload_n 0, 1) := by decide +kernel
theorem dX10_readBlock_256 : decode cX10_readBlock 256 = .ok (.bipush 7, 2) := by decide +kernel
theorem dX10_readBlock_258 : decode cX10_readBlock 258 = .ok (.invokevirtual 138, 3) := by decide +kernel
theorem dX10_readBlock_261 : decode cX10_readBlock 261 = .ok (.goto 5, 3) := by decide +kernel
theorem dX10_readBlock_264 : decode cX10_readBlock 264 = .ok (.bipush (-4), 2) := by decide +kernel
theorem dX10_readBlock_266 : decode cX10_readBlock 266 = .ok (.iastore, 1) := by decide +kernel
theorem dX10_readBlock_267 : decode cX10_readBlock 267 = .ok (.aload_n 0, 1) := by decide +kernel
theorem dX10_readBlock_268 : decode cX10_readBlock 268 = .ok (.getfield 87, 3) := by decide +kernel
theorem dX10_readBlock_271 : decode cX10_readBlock 271 = .ok (.ifCond .ne 14, 3) := by decide +kernel
theorem dX10_readBlock_274 : decode cX10_readBlock 274 = .ok (.aload_n 0, 1) := by decide +kernel
theorem dX10_readBlock_275 : decode cX10_readBlock 275 = .ok (.aload_n 0, 1) := by decide +kernel
theorem dX10_readBlock_276 : decode cX10_readBlock 276 = .ok (.bipush 59, 2) := by decide +kernel
theorem dX10_readBlock_278 : decode cX10_readBlock 278 = .ok (.invokevirtual 141, 3) := by decide +kernel
theorem dX10_readBlock_281 : decode cX10_readBlock 281 = .ok (.iconst 2, 1) := by decide +kernel
theorem dX10_readBlock_282 : decode cX10_readBlock 282 = .ok (.invokevirtual 121, 3) := by decide +kernel
theorem dX10_readBlock_285 : decode cX10_readBlock 285 = .ok (.aload_n 0, 1) := by decide +kernel
theorem dX10_readBlock_286 : decode cX10_readBlock 286 = .ok (.invokevirtual 125, 3) := by decide +kernel
theorem dX10_readBlock_289 : decode cX10_readBlock 289 = .ok (.aload_n 0, 1) := by decide +kernel
theorem dX10_readBlock_290 : decode cX10_readBlock 290 = .ok (.getfield 13, 3) := by decide +kernel
theorem dX10_readBlock_293 : decode cX10_readBlock 293 = .ok (.iconst 0, 1) := by decide +kernel
theorem dX10_readBlock_294 : decode cX10_readBlock 294 = .ok (.dup2, 1) := by decide +kernel
theorem dX10_readBlock_295 : decode cX10_readBlock 295 = .ok (.iaload, 1) := by decide +kernel
theorem dX10_readBlock_296 : decode cX10_readBlock 296 = .ok (.iconst 1, 1) := by decide +kernel
theorem dX10_readBlock_297 : decode cX10_readBlock 297 = .ok (.iadd, 1) := by decide +kernel
theorem dX10_readBlock_298 : decode cX10_readBlock 298 = .ok (.iastore, 1) := by decide +kernel
theorem dX10_readBlock_299 : decode cX10_readBlock 299 = .ok (.return_, 1) := by decide +kernel
theorem dX10_hasAllBlocks_0 : decode cX10_hasAllBlocks 0 = .ok (.iconst 1, 1) := by decide +kernel
theorem dX10_hasAllBlocks_1 : decode cX10_hasAllBlocks 1 = .ok (.istore_n 1, 1) := by decide +kernel
theorem dX10_hasAllBlocks_2 : decode cX10_hasAllBlocks 2 = .ok (.iconst 0, 1) := by decide +kernel
theorem dX10_hasAllBlocks_3 : decode cX10_hasAllBlocks 3 = .ok (.istore_n 2, 1) := by decide +kernel
theorem dX10_hasAllBlocks_4 : decode cX10_hasAllBlocks 4 = .ok (.iload_n 2, 1) := by decide +kernel
theorem dX10_hasAllBlocks_5 : decode cX10_hasAllBlocks 5 = .ok (.aload_n 0, 1) := by decide +kernel
theorem dX10_hasAllBlocks_6 : decode cX10_hasAllBlocks 6 = .ok (.getfield 13, 3) := by decide +kernel
theorem dX10_hasAllBlocks_9 : decode cX10_hasAllBlocks 9 = .ok (.iconst 0, 1) := by decide +kernel
theorem dX10_hasAllBlocks_10 : decode cX10_hasAllBlocks 10 = .ok (.iaload, 1) := by decide +kernel
theorem dX10_hasAllBlocks_11 : decode cX10_hasAllBlocks 11 = .ok (.if_icmp .ge 64, 3) := by decide +kernel
theorem dX10_hasAllBlocks_14 : decode cX10_hasAllBlocks 14 = .ok (.iconst 1, 1) := by decide +kernel
theorem dX10_hasAllBlocks_15 : decode cX10_hasAllBlocks 15 = .ok (.bipush 20, 2) := by decide +kernel
theorem dX10_hasAllBlocks_17 : decode cX10_hasAllBlocks 17 = .ok (.iload_n 2, 1) := by decide +kernel
theorem dX10_hasAllBlocks_18 : decode cX10_hasAllBlocks 18 = .ok (.imul, 1) := by decide +kernel
theorem dX10_hasAllBlocks_19 : decode cX10_hasAllBlocks 19 = .ok (.iadd, 1) := by decide +kernel
theorem dX10_hasAllBlocks_20 : decode cX10_hasAllBlocks 20 = .ok (.istore_n 3, 1) := by decide +kernel
theorem dX10_hasAllBlocks_21 : decode cX10_hasAllBlocks 21 = .ok (.iload_n 1, 1) := by decide +kernel
theorem dX10_hasAllBlocks_22 : decode cX10_hasAllBlocks 22 = .ok (.ifCond .eq 45, 3) := by decide +kernel
theorem dX10_hasAllBlocks_25 : decode cX10_hasAllBlocks 25 = .ok (.aload_n 0, 1) := by decide +kernel
theorem dX10_hasAllBlocks_26 : decode cX10_hasAllBlocks 26 = .ok (.getfield 13, 3) := by decide +kernel
theorem dX10_hasAllBlocks_29 : decode cX10_hasAllBlocks 29 = .ok (.iload_n 3, 1) := by decide +kernel
theorem dX10_hasAllBlocks_30 : decode cX10_hasAllBlocks 30 = .ok (.bipush 14, 2) := by decide +kernel
theorem dX10_hasAllBlocks_32 : decode cX10_hasAllBlocks 32 = .ok (.iadd, 1) := by decide +kernel
theorem dX10_hasAllBlocks_33 : decode cX10_hasAllBlocks 33 = .ok (.iaload, 1) := by decide +kernel
theorem dX10_hasAllBlocks_34 : decode cX10_hasAllBlocks 34 = .ok (.aload_n 0, 1) := by decide +kernel
theorem dX10_hasAllBlocks_35 : decode cX10_hasAllBlocks 35 = .ok (.getfield 13, 3) := by decide +kernel
theorem dX10_hasAllBlocks_38 : decode cX10_hasAllBlocks 38 = .ok (.iconst 0, 1) := by decide +kernel
theorem dX10_hasAllBlocks_39 : decode cX10_hasAllBlocks 39 = .ok (.iaload, 1) := by decide +kernel
theorem dX10_hasAllBlocks_40 : decode cX10_hasAllBlocks 40 = .ok (.if_icmp .ge 27, 3) := by decide +kernel
theorem dX10_hasAllBlocks_43 : decode cX10_hasAllBlocks 43 = .ok (.aload_n 0, 1) := by decide +kernel
theorem dX10_hasAllBlocks_44 : decode cX10_hasAllBlocks 44 = .ok (.getfield 13, 3) := by decide +kernel
theorem dX10_hasAllBlocks_47 : decode cX10_hasAllBlocks 47 = .ok (.iload_n 3, 1) := by decide +kernel
theorem dX10_hasAllBlocks_48 : decode cX10_hasAllBlocks 48 = .ok (.bipush 14, 2) := by decide +kernel
theorem dX10_hasAllBlocks_50 : decode cX10_hasAllBlocks 50 = .ok (.iadd, 1) := by decide +kernel
theorem dX10_hasAllBlocks_51 : decode cX10_hasAllBlocks 51 = .ok (.iconst 1, 1) := by decide +kernel
theorem dX10_hasAllBlocks_52 : decode cX10_hasAllBlocks 52 = .ok (.iadd, 1) := by decide +kernel
theorem dX10_hasAllBlocks_53 : decode cX10_hasAllBlocks 53 = .ok (.iaload, 1) := by decide +kernel
theorem dX10_hasAllBlocks_54 : decode cX10_hasAllBlocks 54 = .ok (.aload_n 0, 1) := by decide +kernel
theorem dX10_hasAllBlocks_55 : decode cX10_hasAllBlocks 55 = .ok (.getfield 13, 3) := by decide +kernel
theorem dX10_hasAllBlocks_58 : decode cX10_hasAllBlocks 58 = .ok (.iconst 0, 1) := by decide +kernel
theorem dX10_hasAllBlocks_59 : decode cX10_hasAllBlocks 59 = .ok (.iaload, 1) := by decide +kernel
theorem dX10_hasAllBlocks_60 : decode cX10_hasAllBlocks 60 = .ok (.if_icmp .ge 7, 3) := by decide +kernel
theorem dX10_hasAllBlocks_63 : decode cX10_hasAllBlocks 63 = .ok (.iconst 1, 1) := by decide +kernel
theorem dX10_hasAllBlocks_64 : decode cX10_hasAllBlocks 64 = .ok (.goto 4, 3) := by decide +kernel
theorem dX10_hasAllBlocks_67 : decode cX10_hasAllBlocks 67 = .ok (.iconst 0, 1) := by decide +kernel
theorem dX10_hasAllBlocks_68 : decode cX10_hasAllBlocks 68 = .ok (.istore_n 1, 1) := by decide +kernel
theorem dX10_hasAllBlocks_69 : decode cX10_hasAllBlocks 69 = .ok (.iinc 2 1, 3) := by decide +kernel
theorem dX10_hasAllBlocks_72 : decode cX10_hasAllBlocks 72 = .ok (.goto (-68), 3) := by decide +kernel
theorem dX10_hasAllBlocks_75 : decode cX10_hasAllBlocks 75 = .ok (.iload_n 1, 1) := by decide +kernel
theorem dX10_hasAllBlocks_76 : decode cX10_hasAllBlocks 76 = .ok (.ireturn, 1) := by decide +kernel
theorem dX10_text_0 : decode cX10_text 0 = .ok (.aload_n 0, 1) := by decide +kernel
theorem dX10_text_1 : decode cX10_text 1 = .ok (.iconst 0, 1) := by decide +kernel
theorem dX10_text_2 : decode cX10_text 2 = .ok (.putfield 87, 3) := by decide +kernel
theorem dX10_text_5 : decode cX10_text 5 = .ok (.aload_n 0, 1) := by decide +kernel
theorem dX10_text_6 : decode cX10_text 6 = .ok (.iconst 0, 1) := by decide +kernel
theorem dX10_text_7 : decode cX10_text 7 = .ok (.putfield 99, 3) := by decide +kernel
theorem dX10_text_10 : decode cX10_text 10 = .ok (.iconst 0, 1) := by decide +kernel
theorem dX10_text_11 : decode cX10_text 11 = .ok (.istore_n 1, 1) := by decide +kernel
theorem dX10_text_12 : decode cX10_text 12 = .ok (.iload_n 1, 1) := by decide +kernel
theorem dX10_text_13 : decode cX10_text 13 = .ok (.sipush 321, 3) := by decide +kernel
theorem dX10_text_16 : decode cX10_text 16 = .ok (.if_icmp .ge 16, 3) := by decide +kernel
theorem dX10_text_19 : decode cX10_text 19 = .ok (.aload_n 0, 1) := by decide +kernel
theorem dX10_text_20 : decode cX10_text 20 = .ok (.getfield 13, 3) := by decide +kernel
theorem dX10_text_23 : decode cX10_text 23 = .ok (.iload_n 1, 1) := by decide +kernel
theorem dX10_text_24 : decode cX10_text 24 = .ok (.iconst 0, 1) := by decide +kernel
theorem dX10_text_25 : decode cX10_text 25 = .ok (.iastore, 1) := by decide +kernel
theorem dX10_text_26 : decode cX10_text 26 = .ok (.iinc 1 1, 3) := by decide +kernel
theorem dX10_text_29 : decode cX10_text 29 = .ok (.goto (-17), 3) := by decide +kernel
theorem dX10_text_32 : decode cX10_text 32 = .ok (.aload_n 0, 1) := by decide +kernel
theorem dX10_text_33 : decode cX10_text 33 = .ok (.invokevirtual 125, 3) := by decide +kernel
theorem dX10_text_36 : decode cX10_text 36 = .ok (.aload_n 0, 1) := by decide +kernel
theorem dX10_text_37 : decode cX10_text 37 = .ok (.getfield 87, 3) := by decide +kernel
theorem dX10_text_40 : decode cX10_text 40 = .ok (.ifCond .ne 17, 3) := by decide +kernel
theorem dX10_text_43 : decode cX10_text 43 = .ok (.aload_n 0, 1) := by decide +kernel
theorem dX10_text_44 : decode cX10_text 44 = .ok (.getfield 96, 3) := by decide +kernel
theorem dX10_text_47 : decode cX10_text 47 = .ok (.ifCond .eq 10, 3) := by decide +kernel
theorem dX10_text_50 : decode cX10_text 50 = .ok (.aload_n 0, 1) := by decide +kernel
theorem dX10_text_51 : decode cX10_text 51 = .ok (.invokevirtual 163, 3) := by decide +kernel
theorem dX10_text_54 : decode cX10_text 54 = .ok (.goto (-18), 3) := by decide +kernel
theorem dX10_text_57 : decode cX10_text 57 = .ok (.aload_n 0, 1) := by decide +kernel
theorem dX10_text_58 : decode cX10_text 58 = .ok (.getfield 87, 3) := by decide +kernel
theorem dX10_text_61 : decode cX10_text 61 = .ok (.ifCond .ne 13, 3) := by decide +kernel
theorem dX10_text_64 : decode cX10_text 64 = .ok (.aload_n 0, 1) := by decide +kernel
theorem dX10_text_65 : decode cX10_text 65 = .ok (.aload_n 0, 1) := by decide +kernel
theorem dX10_text_66 : decode cX10_text 66 = .ok (.invokevirtual 166, 3) := by decide +kernel
theorem dX10_text_69 : decode cX10_text 69 = .ok (.bipush 6, 2) := by decide +kernel
theorem dX10_text_71 : decode cX10_text 71 = .ok (.invokevirtual 121, 3) := by decide +kernel
theorem dX10_text_74 : decode cX10_text 74 = .ok (.aload_n 0, 1) := by decide +kernel
theorem dX10_text_75 : decode cX10_text 75 = .ok (.iconst 0, 1) := by decide +kernel
theorem dX10_text_76 : decode cX10_text 76 = .ok (.putfield 84, 3) := by decide +kernel
theorem dX10_text_79 : decode cX10_text 79 = .ok (.aload_n 0, 1) := by decide +kernel
theorem dX10_text_80 : decode cX10_text 80 = .ok (.getfield 87, 3) := by decide +kernel
theorem dX10_text_83 : decode cX10_text 83 = .ok (.ifCond .le 11, 3) := by decide +kernel
theorem dX10_text_86 : decode cX10_text 86 = .ok (.bipush (-10), 2) := by decide +kernel
theorem dX10_text_88 : decode cX10_text 88 = .ok (.aload_n 0, 1) := by decide +kernel
theorem dX10_text_89 : decode cX10_text 89 = .ok (.getfield 93, 3) := by decide +kernel
theorem dX10_text_92 : decode cX10_text 92 = .ok (.isub, 1) := by decide +kernel
theorem dX10_text_93 : decode cX10_text 93 = .ok (.ireturn, 1) := by decide +kernel
theorem dX10_text_94 : decode cX10_text 94 = .ok (.iconst 0, 1) := by decide +kernel
theorem dX10_text_95 : decode cX10_text 95 = .ok (.istore_n 1, 1) := by decide +kernel
theorem dX10_text_96 : decode cX10_text 96 = .ok (.iload_n 1, 1) := by decide +kernel
theorem dX10_text_97 : decode cX10_text 97 = .ok (.sipush 321, 3) := by decide +kernel
theorem dX10_text_100 : decode cX10_text 100 = .ok (.if_icmp .ge 21, 3) := by decide +kernel
theorem dX10_text_103 : decode cX10_text 103 = .ok (.aload_n 0, 1) := by decide +kernel
theorem dX10_text_104 : decode cX10_text 104 = .ok (.getfield 9, 3) := by decide +kernel
theorem dX10_text_107 : decode cX10_text 107 = .ok (.iload_n 1, 1) := by decide +kernel
theorem dX10_text_108 : decode cX10_text 108 = .ok (.aload_n 0, 1) := by decide +kernel
theorem dX10_text_109 : decode cX10_text 109 = .ok (.getfield 13, 3) := by decide +kernel
theorem dX10_text_112 : decode cX10_text 112 = .ok (.iload_n 1, 1) := by decide +kernel
theorem dX10_text_113 : decode cX10_text 113 = .ok (.iaload, 1) := by decide +kernel
theorem dX10_text_114 : decode cX10_text 114 = .ok (.iastore, 1) := by decide +kernel
theorem dX10_text_115 : decode cX10_text 115 = .ok (.iinc 1 1, 3) := by decide +kernel
theorem dX10_text_118 : decode cX10_text 118 = .ok (.goto (-22), 3) := by decide +kernel
theorem dX10_text_121 : decode cX10_text 121 = .ok (.aload_n 0, 1) := by decide +kernel
theorem dX10_text_122 : decode cX10_text 122 = .ok (.invokevirtual 169, 3) := by decide +kernel
theorem dX10_text_125 : decode cX10_text 125 = .ok (.aload_n 0, 1) := by decide +kernel
theorem dX10_text_126 : decode cX10_text 126 = .ok (.iconst 0, 1) := by decide +kernel
theorem dX10_text_127 : decode cX10_text 127 = .ok (.invokevirtual 172, 3) := by decide +kernel
theorem dX10_text_130 : decode cX10_text 130 = .ok (.ireturn, 1) := by decide +kernel
theorem dX10_fault_0 : decode cX10_fault 0 = .ok (.aload_n 0, 1) := by decide +kernel
theorem dX10_fault_1 : decode cX10_fault 1 = .ok (.getfield 87, 3) := by decide +kernel
theorem dX10_fault_4 : decode cX10_fault 4 = .ok (.ireturn, 1) := by decide +kernel
theorem dX10_isProgram_0 : decode cX10_isProgram 0 = .ok (.iload_n 1, 1) := by decide +kernel
theorem dX10_isProgram_1 : decode cX10_isProgram 1 = .ok (.i2l, 1) := by decide +kernel
theorem dX10_isProgram_2 : decode cX10_isProgram 2 = .ok (.lconst 0, 1) := by decide +kernel
theorem dX10_isProgram_3 : decode cX10_isProgram 3 = .ok (.lconst 1, 1) := by decide +kernel
theorem dX10_isProgram_4 : decode cX10_isProgram 4 = .ok (.invokestatic 80, 3) := by decide +kernel
theorem dX10_isProgram_7 : decode cX10_isProgram 7 = .ok (.ireturn, 1) := by decide +kernel
theorem dX10_isBlock_0 : decode cX10_isBlock 0 = .ok (.iload_n 2, 1) := by decide +kernel
theorem dX10_isBlock_1 : decode cX10_isBlock 1 = .ok (.i2l, 1) := by decide +kernel
theorem dX10_isBlock_2 : decode cX10_isBlock 2 = .ok (.lconst 0, 1) := by decide +kernel
theorem dX10_isBlock_3 : decode cX10_isBlock 3 = .ok (.aload_n 0, 1) := by decide +kernel
theorem dX10_isBlock_4 : decode cX10_isBlock 4 = .ok (.iload_n 1, 1) := by decide +kernel
theorem dX10_isBlock_5 : decode cX10_isBlock 5 = .ok (.invokevirtual 172, 3) := by decide +kernel
theorem dX10_isBlock_8 : decode cX10_isBlock 8 = .ok (.iconst 1, 1) := by decide +kernel
theorem dX10_isBlock_9 : decode cX10_isBlock 9 = .ok (.isub, 1) := by decide +kernel
theorem dX10_isBlock_10 : decode cX10_isBlock 10 = .ok (.i2l, 1) := by decide +kernel
theorem dX10_isBlock_11 : decode cX10_isBlock 11 = .ok (.invokestatic 80, 3) := by decide +kernel
theorem dX10_isBlock_14 : decode cX10_isBlock 14 = .ok (.ireturn, 1) := by decide +kernel
theorem dX10_edgesOf_0 : decode cX10_edgesOf 0 = .ok (.aload_n 0, 1) := by decide +kernel
theorem dX10_edgesOf_1 : decode cX10_edgesOf 1 = .ok (.iload_n 1, 1) := by decide +kernel
theorem dX10_edgesOf_2 : decode cX10_edgesOf 2 = .ok (.iload_n 2, 1) := by decide +kernel
theorem dX10_edgesOf_3 : decode cX10_edgesOf 3 = .ok (.bipush 13, 2) := by decide +kernel
theorem dX10_edgesOf_5 : decode cX10_edgesOf 5 = .ok (.invokevirtual 175, 3) := by decide +kernel
theorem dX10_edgesOf_8 : decode cX10_edgesOf 8 = .ok (.istore_n 3, 1) := by decide +kernel
theorem dX10_edgesOf_9 : decode cX10_edgesOf 9 = .ok (.iload_n 3, 1) := by decide +kernel
theorem dX10_edgesOf_10 : decode cX10_edgesOf 10 = .ok (.ifCond .ne 7, 3) := by decide +kernel
theorem dX10_edgesOf_13 : decode cX10_edgesOf 13 = .ok (.iconst 0, 1) := by decide +kernel
theorem dX10_edgesOf_14 : decode cX10_edgesOf 14 = .ok (.goto 13, 3) := by decide +kernel
theorem dX10_edgesOf_17 : decode cX10_edgesOf 17 = .ok (.iload_n 3, 1) := by decide +kernel
theorem dX10_edgesOf_18 : decode cX10_edgesOf 18 = .ok (.iconst 1, 1) := by decide +kernel
theorem dX10_edgesOf_19 : decode cX10_edgesOf 19 = .ok (.if_icmp .ne 7, 3) := by decide +kernel
theorem dX10_edgesOf_22 : decode cX10_edgesOf 22 = .ok (.iconst 1, 1) := by decide +kernel
theorem dX10_edgesOf_23 : decode cX10_edgesOf 23 = .ok (.goto 4, 3) := by decide +kernel
theorem dX10_edgesOf_26 : decode cX10_edgesOf 26 = .ok (.iconst 2, 1) := by decide +kernel
theorem dX10_edgesOf_27 : decode cX10_edgesOf 27 = .ok (.ireturn, 1) := by decide +kernel
theorem dX10_isEdge_0 : decode cX10_isEdge 0 = .ok (.aload_n 0, 1) := by decide +kernel
theorem dX10_isEdge_1 : decode cX10_isEdge 1 = .ok (.iload_n 1, 1) := by decide +kernel
theorem dX10_isEdge_2 : decode cX10_isEdge 2 = .ok (.iload_n 2, 1) := by decide +kernel
theorem dX10_isEdge_3 : decode cX10_isEdge 3 = .ok (.invokevirtual 178, 3) := by decide +kernel
theorem dX10_isEdge_6 : decode cX10_isEdge 6 = .ok (.ifCond .eq 25, 3) := by decide +kernel
theorem dX10_isEdge_9 : decode cX10_isEdge 9 = .ok (.iload_n 3, 1) := by decide +kernel
theorem dX10_isEdge_10 : decode cX10_isEdge 10 = .ok (.i2l, 1) := by decide +kernel
theorem dX10_isEdge_11 : decode cX10_isEdge 11 = .ok (.lconst 0, 1) := by decide +kernel
theorem dX10_isEdge_12 : decode cX10_isEdge 12 = .ok (.aload_n 0, 1) := by decide +kernel
theorem dX10_isEdge_13 : decode cX10_isEdge 13 = .ok (.iload_n 1, 1) := by decide +kernel
theorem dX10_isEdge_14 : decode cX10_isEdge 14 = .ok (.iload_n 2, 1) := by decide +kernel
theorem dX10_isEdge_15 : decode cX10_isEdge 15 = .ok (.invokevirtual 182, 3) := by decide +kernel
theorem dX10_isEdge_18 : decode cX10_isEdge 18 = .ok (.iconst 1, 1) := by decide +kernel
theorem dX10_isEdge_19 : decode cX10_isEdge 19 = .ok (.isub, 1) := by decide +kernel
theorem dX10_isEdge_20 : decode cX10_isEdge 20 = .ok (.i2l, 1) := by decide +kernel
theorem dX10_isEdge_21 : decode cX10_isEdge 21 = .ok (.invokestatic 80, 3) := by decide +kernel
theorem dX10_isEdge_24 : decode cX10_isEdge 24 = .ok (.ifCond .eq 7, 3) := by decide +kernel
theorem dX10_isEdge_27 : decode cX10_isEdge 27 = .ok (.iconst 1, 1) := by decide +kernel
theorem dX10_isEdge_28 : decode cX10_isEdge 28 = .ok (.goto 4, 3) := by decide +kernel
theorem dX10_isEdge_31 : decode cX10_isEdge 31 = .ok (.iconst 0, 1) := by decide +kernel
theorem dX10_isEdge_32 : decode cX10_isEdge 32 = .ok (.ireturn, 1) := by decide +kernel
theorem dX10_isVariable_0 : decode cX10_isVariable 0 = .ok (.iload_n 0, 1) := by decide +kernel
theorem dX10_isVariable_1 : decode cX10_isVariable 1 = .ok (.i2l, 1) := by decide +kernel
theorem dX10_isVariable_2 : decode cX10_isVariable 2 = .ok (.lconst 0, 1) := by decide +kernel
theorem dX10_isVariable_3 : decode cX10_isVariable 3 = .ok (.ldc2_w 186, 3) := by decide +kernel
theorem dX10_isVariable_6 : decode cX10_isVariable 6 = .ok (.invokestatic 80, 3) := by decide +kernel
theorem dX10_isVariable_9 : decode cX10_isVariable 9 = .ok (.ireturn, 1) := by decide +kernel
theorem dX10_summed_0 : decode cX10_summed 0 = .ok (.iconst 0, 1) := by decide +kernel
theorem dX10_summed_1 : decode cX10_summed 1 = .ok (.istore_n 3, 1) := by decide +kernel
theorem dX10_summed_2 : decode cX10_summed 2 = .ok (.iconst 0, 1) := by decide +kernel
theorem dX10_summed_3 : decode cX10_summed 3 = .ok (.istore 4, 2) := by decide +kernel
theorem dX10_summed_5 : decode cX10_summed 5 = .ok (.iload 4, 2) := by decide +kernel
theorem dX10_summed_7 : decode cX10_summed 7 = .ok (.aload_n 0, 1) := by decide +kernel
theorem dX10_summed_8 : decode cX10_summed 8 = .ok (.iload_n 1, 1) := by decide +kernel
theorem dX10_summed_9 : decode cX10_summed 9 = .ok (.invokevirtual 172, 3) := by decide +kernel
theorem dX10_summed_12 : decode cX10_summed 12 = .ok (.if_icmp .ge 58, 3) := by decide +kernel
theorem dX10_summed_15 : decode cX10_summed 15 = .ok (.iload_n 3, 1) := by decide +kernel
theorem dX10_summed_16 : decode cX10_summed 16 = .ok (.iload_n 2, 1) := by decide +kernel
theorem dX10_summed_17 : decode cX10_summed 17 = .ok (.iconst 1, 1) := by decide +kernel
theorem dX10_summed_18 : decode cX10_summed 18 = .ok (.if_icmp .ne 14, 3) := by decide +kernel
theorem dX10_summed_21 : decode cX10_summed 21 = .ok (.aload_n 0, 1) := by decide +kernel
theorem dX10_summed_22 : decode cX10_summed 22 = .ok (.iload_n 1, 1) := by decide +kernel
theorem dX10_summed_23 : decode cX10_summed 23 = .ok (.iload 4, 2) := by decide +kernel
theorem dX10_summed_25 : decode cX10_summed 25 = .ok (.iconst 0, 1) := by decide +kernel
theorem dX10_summed_26 : decode cX10_summed 26 = .ok (.invokevirtual 175, 3) := by decide +kernel
theorem dX10_summed_29 : decode cX10_summed 29 = .ok (.goto 33, 3) := by decide +kernel
theorem dX10_summed_32 : decode cX10_summed 32 = .ok (.iload_n 2, 1) := by decide +kernel
theorem dX10_summed_33 : decode cX10_summed 33 = .ok (.iconst 2, 1) := by decide +kernel
theorem dX10_summed_34 : decode cX10_summed 34 = .ok (.if_icmp .ne 21, 3) := by decide +kernel
theorem dX10_summed_37 : decode cX10_summed 37 = .ok (.aload_n 0, 1) := by decide +kernel
theorem dX10_summed_38 : decode cX10_summed 38 = .ok (.iload_n 1, 1) := by decide +kernel
theorem dX10_summed_39 : decode cX10_summed 39 = .ok (.iload 4, 2) := by decide +kernel
theorem dX10_summed_41 : decode cX10_summed 41 = .ok (.bipush 13, 2) := by decide +kernel
theorem dX10_summed_43 : decode cX10_summed 43 = .ok (.invokevirtual 175, 3) := by decide +kernel
theorem dX10_summed_46 : decode cX10_summed 46 = .ok (.invokestatic 188, 3) := by decide +kernel
theorem dX10_summed_49 : decode cX10_summed 49 = .ok (.invokestatic 145, 3) := by decide +kernel
theorem dX10_summed_52 : decode cX10_summed 52 = .ok (.goto 10, 3) := by decide +kernel
theorem dX10_summed_55 : decode cX10_summed 55 = .ok (.aload_n 0, 1) := by decide +kernel
theorem dX10_summed_56 : decode cX10_summed 56 = .ok (.iload_n 1, 1) := by decide +kernel
theorem dX10_summed_57 : decode cX10_summed 57 = .ok (.iload 4, 2) := by decide +kernel
theorem dX10_summed_59 : decode cX10_summed 59 = .ok (.invokevirtual 182, 3) := by decide +kernel
theorem dX10_summed_62 : decode cX10_summed 62 = .ok (.iadd, 1) := by decide +kernel
theorem dX10_summed_63 : decode cX10_summed 63 = .ok (.istore_n 3, 1) := by decide +kernel
theorem dX10_summed_64 : decode cX10_summed 64 = .ok (.iinc 4 1, 3) := by decide +kernel
theorem dX10_summed_67 : decode cX10_summed 67 = .ok (.goto (-62), 3) := by decide +kernel
theorem dX10_summed_70 : decode cX10_summed 70 = .ok (.iload_n 3, 1) := by decide +kernel
theorem dX10_summed_71 : decode cX10_summed 71 = .ok (.ireturn, 1) := by decide +kernel
theorem dX10_program_0 : decode cX10_program 0 = .ok (.aload_n 0, 1) := by decide +kernel
theorem dX10_program_1 : decode cX10_program 1 = .ok (.iload_n 1, 1) := by decide +kernel
theorem dX10_program_2 : decode cX10_program 2 = .ok (.invokevirtual 191, 3) := by decide +kernel
theorem dX10_program_5 : decode cX10_program 5 = .ok (.ifCond .eq 15, 3) := by decide +kernel
theorem dX10_program_8 : decode cX10_program 8 = .ok (.iload_n 2, 1) := by decide +kernel
theorem dX10_program_9 : decode cX10_program 9 = .ok (.i2l, 1) := by decide +kernel
theorem dX10_program_10 : decode cX10_program 10 = .ok (.lconst 0, 1) := by decide +kernel
theorem dX10_program_11 : decode cX10_program 11 = .ok (.ldc2_w 194, 3) := by decide +kernel
theorem dX10_program_14 : decode cX10_program 14 = .ok (.invokestatic 80, 3) := by decide +kernel
theorem dX10_program_17 : decode cX10_program 17 = .ok (.ifCond .ne 5, 3) := by decide +kernel
theorem dX10_program_20 : decode cX10_program 20 = .ok (.iconst (-1), 1) := by decide +kernel
theorem dX10_program_21 : decode cX10_program 21 = .ok (.ireturn, 1) := by decide +kernel
theorem dX10_program_22 : decode cX10_program 22 = .ok (.iload_n 2, 1) := by decide +kernel
theorem dX10_program_23 : decode cX10_program 23 = .ok (.ifCond .ne 9, 3) := by decide +kernel
theorem dX10_program_26 : decode cX10_program 26 = .ok (.aload_n 0, 1) := by decide +kernel
theorem dX10_program_27 : decode cX10_program 27 = .ok (.iload_n 1, 1) := by decide +kernel
theorem dX10_program_28 : decode cX10_program 28 = .ok (.invokevirtual 172, 3) := by decide +kernel
theorem dX10_program_31 : decode cX10_program 31 = .ok (.ireturn, 1) := by decide +kernel
theorem dX10_program_32 : decode cX10_program 32 = .ok (.iload_n 2, 1) := by decide +kernel
theorem dX10_program_33 : decode cX10_program 33 = .ok (.iconst 4, 1) := by decide +kernel
theorem dX10_program_34 : decode cX10_program 34 = .ok (.if_icmp .ge 10, 3) := by decide +kernel
theorem dX10_program_37 : decode cX10_program 37 = .ok (.aload_n 0, 1) := by decide +kernel
theorem dX10_program_38 : decode cX10_program 38 = .ok (.iload_n 1, 1) := by decide +kernel
theorem dX10_program_39 : decode cX10_program 39 = .ok (.iload_n 2, 1) := by decide +kernel
theorem dX10_program_40 : decode cX10_program 40 = .ok (.invokevirtual 196, 3) := by decide +kernel
theorem dX10_program_43 : decode cX10_program 43 = .ok (.ireturn, 1) := by decide +kernel
theorem dX10_program_44 : decode cX10_program 44 = .ok (.iload_n 1, 1) := by decide +kernel
theorem dX10_program_45 : decode cX10_program 45 = .ok (.ifCond .ne 8, 3) := by decide +kernel
theorem dX10_program_48 : decode cX10_program 48 = .ok (.bipush (-4), 2) := by decide +kernel
theorem dX10_program_50 : decode cX10_program 50 = .ok (.goto 8, 3) := by decide +kernel
theorem dX10_program_53 : decode cX10_program 53 = .ok (.aload_n 0, 1) := by decide +kernel
theorem dX10_program_54 : decode cX10_program 54 = .ok (.iload_n 2, 1) := by decide +kernel
theorem dX10_program_55 : decode cX10_program 55 = .ok (.invokevirtual 199, 3) := by decide +kernel
theorem dX10_program_58 : decode cX10_program 58 = .ok (.ireturn, 1) := by decide +kernel
theorem dX10_block_0 : decode cX10_block 0 = .ok (.aload_n 0, 1) := by decide +kernel
theorem dX10_block_1 : decode cX10_block 1 = .ok (.iload_n 1, 1) := by decide +kernel
theorem dX10_block_2 : decode cX10_block 2 = .ok (.invokevirtual 191, 3) := by decide +kernel
theorem dX10_block_5 : decode cX10_block 5 = .ok (.ifCond .eq 12, 3) := by decide +kernel
theorem dX10_block_8 : decode cX10_block 8 = .ok (.aload_n 0, 1) := by decide +kernel
theorem dX10_block_9 : decode cX10_block 9 = .ok (.iload_n 1, 1) := by decide +kernel
theorem dX10_block_10 : decode cX10_block 10 = .ok (.iload_n 2, 1) := by decide +kernel
theorem dX10_block_11 : decode cX10_block 11 = .ok (.invokevirtual 178, 3) := by decide +kernel
theorem dX10_block_14 : decode cX10_block 14 = .ok (.ifCond .ne 5, 3) := by decide +kernel
theorem dX10_block_17 : decode cX10_block 17 = .ok (.iconst (-1), 1) := by decide +kernel
theorem dX10_block_18 : decode cX10_block 18 = .ok (.ireturn, 1) := by decide +kernel
theorem dX10_block_19 : decode cX10_block 19 = .ok (.iload_n 3, 1) := by decide +kernel
theorem dX10_block_20 : decode cX10_block 20 = .ok (.tableswitch 67 0 7 #[48, 56, 56, 56, 56, 56, 56, 56], 48) := by decide +kernel
theorem dX10_block_68 : decode cX10_block 68 = .ok (.aload_n 0, 1) := by decide +kernel
theorem dX10_block_69 : decode cX10_block 69 = .ok (.iload_n 1, 1) := by decide +kernel
theorem dX10_block_70 : decode cX10_block 70 = .ok (.iload_n 2, 1) := by decide +kernel
theorem dX10_block_71 : decode cX10_block 71 = .ok (.iconst 0, 1) := by decide +kernel
theorem dX10_block_72 : decode cX10_block 72 = .ok (.invokevirtual 175, 3) := by decide +kernel
theorem dX10_block_75 : decode cX10_block 75 = .ok (.ireturn, 1) := by decide +kernel
theorem dX10_block_76 : decode cX10_block 76 = .ok (.aload_n 0, 1) := by decide +kernel
theorem dX10_block_77 : decode cX10_block 77 = .ok (.iload_n 1, 1) := by decide +kernel
theorem dX10_block_78 : decode cX10_block 78 = .ok (.iload_n 2, 1) := by decide +kernel
theorem dX10_block_79 : decode cX10_block 79 = .ok (.bipush 12, 2) := by decide +kernel
theorem dX10_block_81 : decode cX10_block 81 = .ok (.iload_n 3, 1) := by decide +kernel
theorem dX10_block_82 : decode cX10_block 82 = .ok (.iadd, 1) := by decide +kernel
theorem dX10_block_83 : decode cX10_block 83 = .ok (.invokevirtual 175, 3) := by decide +kernel
theorem dX10_block_86 : decode cX10_block 86 = .ok (.ireturn, 1) := by decide +kernel
theorem dX10_block_87 : decode cX10_block 87 = .ok (.iconst (-1), 1) := by decide +kernel
theorem dX10_block_88 : decode cX10_block 88 = .ok (.ireturn, 1) := by decide +kernel
theorem dX10_act_0 : decode cX10_act 0 = .ok (.aload_n 0, 1) := by decide +kernel
theorem dX10_act_1 : decode cX10_act 1 = .ok (.iload_n 1, 1) := by decide +kernel
theorem dX10_act_2 : decode cX10_act 2 = .ok (.invokevirtual 191, 3) := by decide +kernel
theorem dX10_act_5 : decode cX10_act 5 = .ok (.ifCond .eq 29, 3) := by decide +kernel
theorem dX10_act_8 : decode cX10_act 8 = .ok (.aload_n 0, 1) := by decide +kernel
theorem dX10_act_9 : decode cX10_act 9 = .ok (.iload_n 1, 1) := by decide +kernel
theorem dX10_act_10 : decode cX10_act 10 = .ok (.iload_n 2, 1) := by decide +kernel
theorem dX10_act_11 : decode cX10_act 11 = .ok (.invokevirtual 178, 3) := by decide +kernel
theorem dX10_act_14 : decode cX10_act 14 = .ok (.ifCond .eq 20, 3) := by decide +kernel
theorem dX10_act_17 : decode cX10_act 17 = .ok (.iload_n 3, 1) := by decide +kernel
theorem dX10_act_18 : decode cX10_act 18 = .ok (.ifCond .lt 16, 3) := by decide +kernel
theorem dX10_act_21 : decode cX10_act 21 = .ok (.iload 4, 2) := by decide +kernel
theorem dX10_act_23 : decode cX10_act 23 = .ok (.i2l, 1) := by decide +kernel
theorem dX10_act_24 : decode cX10_act 24 = .ok (.lconst 0, 1) := by decide +kernel
theorem dX10_act_25 : decode cX10_act 25 = .ok (.ldc2_w 202, 3) := by decide +kernel
theorem dX10_act_28 : decode cX10_act 28 = .ok (.invokestatic 80, 3) := by decide +kernel
theorem dX10_act_31 : decode cX10_act 31 = .ok (.ifCond .ne 5, 3) := by decide +kernel
theorem dX10_act_34 : decode cX10_act 34 = .ok (.iconst (-1), 1) := by decide +kernel
theorem dX10_act_35 : decode cX10_act 35 = .ok (.ireturn, 1) := by decide +kernel
theorem dX10_act_36 : decode cX10_act 36 = .ok (.iload_n 3, 1) := by decide +kernel
theorem dX10_act_37 : decode cX10_act 37 = .ok (.aload_n 0, 1) := by decide +kernel
theorem dX10_act_38 : decode cX10_act 38 = .ok (.iload_n 1, 1) := by decide +kernel
theorem dX10_act_39 : decode cX10_act 39 = .ok (.iload_n 2, 1) := by decide +kernel
theorem dX10_act_40 : decode cX10_act 40 = .ok (.iconst 0, 1) := by decide +kernel
theorem dX10_act_41 : decode cX10_act 41 = .ok (.invokevirtual 175, 3) := by decide +kernel
theorem dX10_act_44 : decode cX10_act 44 = .ok (.if_icmp .ge 20, 3) := by decide +kernel
theorem dX10_act_47 : decode cX10_act 47 = .ok (.aload_n 0, 1) := by decide +kernel
theorem dX10_act_48 : decode cX10_act 48 = .ok (.iload_n 1, 1) := by decide +kernel
theorem dX10_act_49 : decode cX10_act 49 = .ok (.iload_n 2, 1) := by decide +kernel
theorem dX10_act_50 : decode cX10_act 50 = .ok (.iconst 1, 1) := by decide +kernel
theorem dX10_act_51 : decode cX10_act 51 = .ok (.iconst 3, 1) := by decide +kernel
theorem dX10_act_52 : decode cX10_act 52 = .ok (.iload_n 3, 1) := by decide +kernel
theorem dX10_act_53 : decode cX10_act 53 = .ok (.imul, 1) := by decide +kernel
theorem dX10_act_54 : decode cX10_act 54 = .ok (.iadd, 1) := by decide +kernel
theorem dX10_act_55 : decode cX10_act 55 = .ok (.iload 4, 2) := by decide +kernel
theorem dX10_act_57 : decode cX10_act 57 = .ok (.iadd, 1) := by decide +kernel
theorem dX10_act_58 : decode cX10_act 58 = .ok (.invokevirtual 175, 3) := by decide +kernel
theorem dX10_act_61 : decode cX10_act 61 = .ok (.goto 5, 3) := by decide +kernel
theorem dX10_act_64 : decode cX10_act 64 = .ok (.bipush (-4), 2) := by decide +kernel
theorem dX10_act_66 : decode cX10_act 66 = .ok (.ireturn, 1) := by decide +kernel
theorem dX10_lowOf_0 : decode cX10_lowOf 0 = .ok (.iconst 0, 1) := by decide +kernel
theorem dX10_lowOf_1 : decode cX10_lowOf 1 = .ok (.istore_n 2, 1) := by decide +kernel
theorem dX10_lowOf_2 : decode cX10_lowOf 2 = .ok (.iload_n 2, 1) := by decide +kernel
theorem dX10_lowOf_3 : decode cX10_lowOf 3 = .ok (.bipush 50, 2) := by decide +kernel
theorem dX10_lowOf_5 : decode cX10_lowOf 5 = .ok (.if_icmp .gt 19, 3) := by decide +kernel
theorem dX10_lowOf_8 : decode cX10_lowOf 8 = .ok (.lload_n 0, 1) := by decide +kernel
theorem dX10_lowOf_9 : decode cX10_lowOf 9 = .ok (.iload_n 2, 1) := by decide +kernel
theorem dX10_lowOf_10 : decode cX10_lowOf 10 = .ok (.lshr, 1) := by decide +kernel
theorem dX10_lowOf_11 : decode cX10_lowOf 11 = .ok (.lconst 1, 1) := by decide +kernel
theorem dX10_lowOf_12 : decode cX10_lowOf 12 = .ok (.land, 1) := by decide +kernel
theorem dX10_lowOf_13 : decode cX10_lowOf 13 = .ok (.lconst 0, 1) := by decide +kernel
theorem dX10_lowOf_14 : decode cX10_lowOf 14 = .ok (.lcmp, 1) := by decide +kernel
theorem dX10_lowOf_15 : decode cX10_lowOf 15 = .ok (.ifCond .ne 9, 3) := by decide +kernel
theorem dX10_lowOf_18 : decode cX10_lowOf 18 = .ok (.iinc 2 1, 3) := by decide +kernel
theorem dX10_lowOf_21 : decode cX10_lowOf 21 = .ok (.goto (-19), 3) := by decide +kernel
theorem dX10_lowOf_24 : decode cX10_lowOf 24 = .ok (.iload_n 2, 1) := by decide +kernel
theorem dX10_lowOf_25 : decode cX10_lowOf 25 = .ok (.bipush 50, 2) := by decide +kernel
theorem dX10_lowOf_27 : decode cX10_lowOf 27 = .ok (.if_icmp .le 8, 3) := by decide +kernel
theorem dX10_lowOf_30 : decode cX10_lowOf 30 = .ok (.bipush (-4), 2) := by decide +kernel
theorem dX10_lowOf_32 : decode cX10_lowOf 32 = .ok (.goto 4, 3) := by decide +kernel
theorem dX10_lowOf_35 : decode cX10_lowOf 35 = .ok (.iload_n 2, 1) := by decide +kernel
theorem dX10_lowOf_36 : decode cX10_lowOf 36 = .ok (.ireturn, 1) := by decide +kernel
theorem dX10_highOf_0 : decode cX10_highOf 0 = .ok (.bipush 50, 2) := by decide +kernel
theorem dX10_highOf_2 : decode cX10_highOf 2 = .ok (.istore_n 2, 1) := by decide +kernel
theorem dX10_highOf_3 : decode cX10_highOf 3 = .ok (.iload_n 2, 1) := by decide +kernel
theorem dX10_highOf_4 : decode cX10_highOf 4 = .ok (.ifCond .lt 19, 3) := by decide +kernel
theorem dX10_highOf_7 : decode cX10_highOf 7 = .ok (.lload_n 0, 1) := by decide +kernel
theorem dX10_highOf_8 : decode cX10_highOf 8 = .ok (.iload_n 2, 1) := by decide +kernel
theorem dX10_highOf_9 : decode cX10_highOf 9 = .ok (.lshr, 1) := by decide +kernel
theorem dX10_highOf_10 : decode cX10_highOf 10 = .ok (.lconst 1, 1) := by decide +kernel
theorem dX10_highOf_11 : decode cX10_highOf 11 = .ok (.land, 1) := by decide +kernel
theorem dX10_highOf_12 : decode cX10_highOf 12 = .ok (.lconst 0, 1) := by decide +kernel
theorem dX10_highOf_13 : decode cX10_highOf 13 = .ok (.lcmp, 1) := by decide +kernel
theorem dX10_highOf_14 : decode cX10_highOf 14 = .ok (.ifCond .ne 9, 3) := by decide +kernel
theorem dX10_highOf_17 : decode cX10_highOf 17 = .ok (.iinc 2 (-1), 3) := by decide +kernel
theorem dX10_highOf_20 : decode cX10_highOf 20 = .ok (.goto (-17), 3) := by decide +kernel
theorem dX10_highOf_23 : decode cX10_highOf 23 = .ok (.iload_n 2, 1) := by decide +kernel
theorem dX10_highOf_24 : decode cX10_highOf 24 = .ok (.ifCond .ge 8, 3) := by decide +kernel
theorem dX10_highOf_27 : decode cX10_highOf 27 = .ok (.bipush (-4), 2) := by decide +kernel
theorem dX10_highOf_29 : decode cX10_highOf 29 = .ok (.goto 4, 3) := by decide +kernel
theorem dX10_highOf_32 : decode cX10_highOf 32 = .ok (.iload_n 2, 1) := by decide +kernel
theorem dX10_highOf_33 : decode cX10_highOf 33 = .ok (.ireturn, 1) := by decide +kernel
theorem dX10_from_0 : decode cX10_from 0 = .ok (.lconst 0, 1) := by decide +kernel
theorem dX10_from_1 : decode cX10_from 1 = .ok (.lstore_n 2, 1) := by decide +kernel
theorem dX10_from_2 : decode cX10_from 2 = .ok (.iload_n 0, 1) := by decide +kernel
theorem dX10_from_3 : decode cX10_from 3 = .ok (.ifCond .ge 7, 3) := by decide +kernel
theorem dX10_from_6 : decode cX10_from 6 = .ok (.iconst 0, 1) := by decide +kernel
theorem dX10_from_7 : decode cX10_from 7 = .ok (.goto 4, 3) := by decide +kernel
theorem dX10_from_10 : decode cX10_from 10 = .ok (.iload_n 0, 1) := by decide +kernel
theorem dX10_from_11 : decode cX10_from 11 = .ok (.istore 4, 2) := by decide +kernel
theorem dX10_from_13 : decode cX10_from 13 = .ok (.iload 4, 2) := by decide +kernel
theorem dX10_from_15 : decode cX10_from 15 = .ok (.iload_n 1, 1) := by decide +kernel
theorem dX10_from_16 : decode cX10_from 16 = .ok (.if_icmp .gt 23, 3) := by decide +kernel
theorem dX10_from_19 : decode cX10_from 19 = .ok (.iload 4, 2) := by decide +kernel
theorem dX10_from_21 : decode cX10_from 21 = .ok (.bipush 50, 2) := by decide +kernel
theorem dX10_from_23 : decode cX10_from 23 = .ok (.if_icmp .gt 16, 3) := by decide +kernel
theorem dX10_from_26 : decode cX10_from 26 = .ok (.lload_n 2, 1) := by decide +kernel
theorem dX10_from_27 : decode cX10_from 27 = .ok (.lconst 1, 1) := by decide +kernel
theorem dX10_from_28 : decode cX10_from 28 = .ok (.iload 4, 2) := by decide +kernel
theorem dX10_from_30 : decode cX10_from 30 = .ok (.lshl, 1) := by decide +kernel
theorem dX10_from_31 : decode cX10_from 31 = .ok (.lor, 1) := by decide +kernel
theorem dX10_from_32 : decode cX10_from 32 = .ok (.lstore_n 2, 1) := by decide +kernel
theorem dX10_from_33 : decode cX10_from 33 = .ok (.iinc 4 1, 3) := by decide +kernel
theorem dX10_from_36 : decode cX10_from 36 = .ok (.goto (-23), 3) := by decide +kernel
theorem dX10_from_39 : decode cX10_from 39 = .ok (.lload_n 2, 1) := by decide +kernel
theorem dX10_from_40 : decode cX10_from 40 = .ok (.lreturn, 1) := by decide +kernel
theorem dX10_filled_0 : decode cX10_filled 0 = .ok (.lload_n 0, 1) := by decide +kernel
theorem dX10_filled_1 : decode cX10_filled 1 = .ok (.invokestatic 204, 3) := by decide +kernel
theorem dX10_filled_4 : decode cX10_filled 4 = .ok (.bipush (-4), 2) := by decide +kernel
theorem dX10_filled_6 : decode cX10_filled 6 = .ok (.if_icmp .ne 7, 3) := by decide +kernel
theorem dX10_filled_9 : decode cX10_filled 9 = .ok (.lload_n 0, 1) := by decide +kernel
theorem dX10_filled_10 : decode cX10_filled 10 = .ok (.goto 16, 3) := by decide +kernel
theorem dX10_filled_13 : decode cX10_filled 13 = .ok (.lload_n 0, 1) := by decide +kernel
theorem dX10_filled_14 : decode cX10_filled 14 = .ok (.lload_n 0, 1) := by decide +kernel
theorem dX10_filled_15 : decode cX10_filled 15 = .ok (.invokestatic 204, 3) := by decide +kernel
theorem dX10_filled_18 : decode cX10_filled 18 = .ok (.lload_n 0, 1) := by decide +kernel
theorem dX10_filled_19 : decode cX10_filled 19 = .ok (.invokestatic 208, 3) := by decide +kernel
theorem dX10_filled_22 : decode cX10_filled 22 = .ok (.invokestatic 211, 3) := by decide +kernel
theorem dX10_filled_25 : decode cX10_filled 25 = .ok (.lor, 1) := by decide +kernel
theorem dX10_filled_26 : decode cX10_filled 26 = .ok (.lreturn, 1) := by decide +kernel
theorem dX10_bounded_0 : decode cX10_bounded 0 = .ok (.iload_n 0, 1) := by decide +kernel
theorem dX10_bounded_1 : decode cX10_bounded 1 = .ok (.ifCond .ge 7, 3) := by decide +kernel
theorem dX10_bounded_4 : decode cX10_bounded 4 = .ok (.iconst 0, 1) := by decide +kernel
theorem dX10_bounded_5 : decode cX10_bounded 5 = .ok (.goto 15, 3) := by decide +kernel
theorem dX10_bounded_8 : decode cX10_bounded 8 = .ok (.iload_n 0, 1) := by decide +kernel
theorem dX10_bounded_9 : decode cX10_bounded 9 = .ok (.bipush 50, 2) := by decide +kernel
theorem dX10_bounded_11 : decode cX10_bounded 11 = .ok (.if_icmp .le 8, 3) := by decide +kernel
theorem dX10_bounded_14 : decode cX10_bounded 14 = .ok (.bipush 50, 2) := by decide +kernel
theorem dX10_bounded_16 : decode cX10_bounded 16 = .ok (.goto 4, 3) := by decide +kernel
theorem dX10_bounded_19 : decode cX10_bounded 19 = .ok (.iload_n 0, 1) := by decide +kernel
theorem dX10_bounded_20 : decode cX10_bounded 20 = .ok (.ireturn, 1) := by decide +kernel
theorem dX10_moved_0 : decode cX10_moved 0 = .ok (.lload_n 0, 1) := by decide +kernel
theorem dX10_moved_1 : decode cX10_moved 1 = .ok (.invokestatic 204, 3) := by decide +kernel
theorem dX10_moved_4 : decode cX10_moved 4 = .ok (.bipush (-4), 2) := by decide +kernel
theorem dX10_moved_6 : decode cX10_moved 6 = .ok (.if_icmp .ne 7, 3) := by decide +kernel
theorem dX10_moved_9 : decode cX10_moved 9 = .ok (.lload_n 0, 1) := by decide +kernel
theorem dX10_moved_10 : decode cX10_moved 10 = .ok (.goto 30, 3) := by decide +kernel
theorem dX10_moved_13 : decode cX10_moved 13 = .ok (.lload_n 0, 1) := by decide +kernel
theorem dX10_moved_14 : decode cX10_moved 14 = .ok (.ldc2_w 215, 3) := by decide +kernel
theorem dX10_moved_17 : decode cX10_moved 17 = .ok (.land, 1) := by decide +kernel
theorem dX10_moved_18 : decode cX10_moved 18 = .ok (.lload_n 0, 1) := by decide +kernel
theorem dX10_moved_19 : decode cX10_moved 19 = .ok (.invokestatic 204, 3) := by decide +kernel
theorem dX10_moved_22 : decode cX10_moved 22 = .ok (.iload_n 2, 1) := by decide +kernel
theorem dX10_moved_23 : decode cX10_moved 23 = .ok (.iadd, 1) := by decide +kernel
theorem dX10_moved_24 : decode cX10_moved 24 = .ok (.invokestatic 217, 3) := by decide +kernel
theorem dX10_moved_27 : decode cX10_moved 27 = .ok (.lload_n 0, 1) := by decide +kernel
theorem dX10_moved_28 : decode cX10_moved 28 = .ok (.invokestatic 208, 3) := by decide +kernel
theorem dX10_moved_31 : decode cX10_moved 31 = .ok (.iload_n 2, 1) := by decide +kernel
theorem dX10_moved_32 : decode cX10_moved 32 = .ok (.iadd, 1) := by decide +kernel
theorem dX10_moved_33 : decode cX10_moved 33 = .ok (.invokestatic 217, 3) := by decide +kernel
theorem dX10_moved_36 : decode cX10_moved 36 = .ok (.invokestatic 211, 3) := by decide +kernel
theorem dX10_moved_39 : decode cX10_moved 39 = .ok (.lor, 1) := by decide +kernel
theorem dX10_moved_40 : decode cX10_moved 40 = .ok (.lreturn, 1) := by decide +kernel
theorem dX10_actsOn_0 : decode cX10_actsOn 0 = .ok (.iconst 0, 1) := by decide +kernel
theorem dX10_actsOn_1 : decode cX10_actsOn 1 = .ok (.istore_n 2, 1) := by decide +kernel
theorem dX10_actsOn_2 : decode cX10_actsOn 2 = .ok (.iload_n 2, 1) := by decide +kernel
theorem dX10_actsOn_3 : decode cX10_actsOn 3 = .ok (.aload_n 0, 1) := by decide +kernel
theorem dX10_actsOn_4 : decode cX10_actsOn 4 = .ok (.iconst 1, 1) := by decide +kernel
theorem dX10_actsOn_5 : decode cX10_actsOn 5 = .ok (.iload_n 1, 1) := by decide +kernel
theorem dX10_actsOn_6 : decode cX10_actsOn 6 = .ok (.iconst 0, 1) := by decide +kernel
theorem dX10_actsOn_7 : decode cX10_actsOn 7 = .ok (.invokevirtual 175, 3) := by decide +kernel
theorem dX10_actsOn_10 : decode cX10_actsOn 10 = .ok (.if_icmp .ge 166, 3) := by decide +kernel
theorem dX10_actsOn_13 : decode cX10_actsOn 13 = .ok (.aload_n 0, 1) := by decide +kernel
theorem dX10_actsOn_14 : decode cX10_actsOn 14 = .ok (.iconst 1, 1) := by decide +kernel
theorem dX10_actsOn_15 : decode cX10_actsOn 15 = .ok (.iload_n 1, 1) := by decide +kernel
theorem dX10_actsOn_16 : decode cX10_actsOn 16 = .ok (.iconst 1, 1) := by decide +kernel
theorem dX10_actsOn_17 : decode cX10_actsOn 17 = .ok (.iconst 3, 1) := by decide +kernel
theorem dX10_actsOn_18 : decode cX10_actsOn 18 = .ok (.iload_n 2, 1) := by decide +kernel
theorem dX10_actsOn_19 : decode cX10_actsOn 19 = .ok (.imul, 1) := by decide +kernel
theorem dX10_actsOn_20 : decode cX10_actsOn 20 = .ok (.iadd, 1) := by decide +kernel
theorem dX10_actsOn_21 : decode cX10_actsOn 21 = .ok (.iconst 1, 1) := by decide +kernel
theorem dX10_actsOn_22 : decode cX10_actsOn 22 = .ok (.iadd, 1) := by decide +kernel
theorem dX10_actsOn_23 : decode cX10_actsOn 23 = .ok (.invokevirtual 175, 3) := by decide +kernel
theorem dX10_actsOn_26 : decode cX10_actsOn 26 = .ok (.istore_n 3, 1) := by decide +kernel
theorem dX10_actsOn_27 : decode cX10_actsOn 27 = .ok (.aload_n 0, 1) := by decide +kernel
theorem dX10_actsOn_28 : decode cX10_actsOn 28 = .ok (.iconst 1, 1) := by decide +kernel
theorem dX10_actsOn_29 : decode cX10_actsOn 29 = .ok (.iload_n 1, 1) := by decide +kernel
theorem dX10_actsOn_30 : decode cX10_actsOn 30 = .ok (.iconst 1, 1) := by decide +kernel
theorem dX10_actsOn_31 : decode cX10_actsOn 31 = .ok (.iconst 3, 1) := by decide +kernel
theorem dX10_actsOn_32 : decode cX10_actsOn 32 = .ok (.iload_n 2, 1) := by decide +kernel
theorem dX10_actsOn_33 : decode cX10_actsOn 33 = .ok (.imul, 1) := by decide +kernel
theorem dX10_actsOn_34 : decode cX10_actsOn 34 = .ok (.iadd, 1) := by decide +kernel
theorem dX10_actsOn_35 : decode cX10_actsOn 35 = .ok (.iconst 2, 1) := by decide +kernel
theorem dX10_actsOn_36 : decode cX10_actsOn 36 = .ok (.iadd, 1) := by decide +kernel
theorem dX10_actsOn_37 : decode cX10_actsOn 37 = .ok (.invokevirtual 175, 3) := by decide +kernel
theorem dX10_actsOn_40 : decode cX10_actsOn 40 = .ok (.istore 4, 2) := by decide +kernel
theorem dX10_actsOn_42 : decode cX10_actsOn 42 = .ok (.aload_n 0, 1) := by decide +kernel
theorem dX10_actsOn_43 : decode cX10_actsOn 43 = .ok (.iconst 1, 1) := by decide +kernel
theorem dX10_actsOn_44 : decode cX10_actsOn 44 = .ok (.iload_n 1, 1) := by decide +kernel
theorem dX10_actsOn_45 : decode cX10_actsOn 45 = .ok (.iconst 1, 1) := by decide +kernel
theorem dX10_actsOn_46 : decode cX10_actsOn 46 = .ok (.iconst 3, 1) := by decide +kernel
theorem dX10_actsOn_47 : decode cX10_actsOn 47 = .ok (.iload_n 2, 1) := by decide +kernel
theorem dX10_actsOn_48 : decode cX10_actsOn 48 = .ok (.imul, 1) := by decide +kernel
theorem dX10_actsOn_49 : decode cX10_actsOn 49 = .ok (.iadd, 1) := by decide +kernel
theorem dX10_actsOn_50 : decode cX10_actsOn 50 = .ok (.invokevirtual 175, 3) := by decide +kernel
theorem dX10_actsOn_53 : decode cX10_actsOn 53 = .ok (.tableswitch 117 0 4 #[35, 48, 68, 89, 105], 35) := by decide +kernel
theorem dX10_actsOn_88 : decode cX10_actsOn 88 = .ok (.aload_n 0, 1) := by decide +kernel
theorem dX10_actsOn_89 : decode cX10_actsOn 89 = .ok (.getfield 34, 3) := by decide +kernel
theorem dX10_actsOn_92 : decode cX10_actsOn 92 = .ok (.iload_n 3, 1) := by decide +kernel
theorem dX10_actsOn_93 : decode cX10_actsOn 93 = .ok (.lconst 1, 1) := by decide +kernel
theorem dX10_actsOn_94 : decode cX10_actsOn 94 = .ok (.iload 4, 2) := by decide +kernel
theorem dX10_actsOn_96 : decode cX10_actsOn 96 = .ok (.lshl, 1) := by decide +kernel
theorem dX10_actsOn_97 : decode cX10_actsOn 97 = .ok (.lastore, 1) := by decide +kernel
theorem dX10_actsOn_98 : decode cX10_actsOn 98 = .ok (.goto 72, 3) := by decide +kernel
theorem dX10_actsOn_101 : decode cX10_actsOn 101 = .ok (.aload_n 0, 1) := by decide +kernel
theorem dX10_actsOn_102 : decode cX10_actsOn 102 = .ok (.getfield 34, 3) := by decide +kernel
theorem dX10_actsOn_105 : decode cX10_actsOn 105 = .ok (.iload_n 3, 1) := by decide +kernel
theorem dX10_actsOn_106 : decode cX10_actsOn 106 = .ok (.aload_n 0, 1) := by decide +kernel
theorem dX10_actsOn_107 : decode cX10_actsOn 107 = .ok (.getfield 34, 3) := by decide +kernel
theorem dX10_actsOn_110 : decode cX10_actsOn 110 = .ok (.iload_n 3, 1) := by decide +kernel
theorem dX10_actsOn_111 : decode cX10_actsOn 111 = .ok (.laload, 1) := by decide +kernel
theorem dX10_actsOn_112 : decode cX10_actsOn 112 = .ok (.iload 4, 2) := by decide +kernel
theorem dX10_actsOn_114 : decode cX10_actsOn 114 = .ok (.invokestatic 220, 3) := by decide +kernel
theorem dX10_actsOn_117 : decode cX10_actsOn 117 = .ok (.lastore, 1) := by decide +kernel
theorem dX10_actsOn_118 : decode cX10_actsOn 118 = .ok (.goto 52, 3) := by decide +kernel
theorem dX10_actsOn_121 : decode cX10_actsOn 121 = .ok (.aload_n 0, 1) := by decide +kernel
theorem dX10_actsOn_122 : decode cX10_actsOn 122 = .ok (.getfield 34, 3) := by decide +kernel
theorem dX10_actsOn_125 : decode cX10_actsOn 125 = .ok (.iload_n 3, 1) := by decide +kernel
theorem dX10_actsOn_126 : decode cX10_actsOn 126 = .ok (.aload_n 0, 1) := by decide +kernel
theorem dX10_actsOn_127 : decode cX10_actsOn 127 = .ok (.getfield 34, 3) := by decide +kernel
theorem dX10_actsOn_130 : decode cX10_actsOn 130 = .ok (.iload_n 3, 1) := by decide +kernel
theorem dX10_actsOn_131 : decode cX10_actsOn 131 = .ok (.laload, 1) := by decide +kernel
theorem dX10_actsOn_132 : decode cX10_actsOn 132 = .ok (.iload 4, 2) := by decide +kernel
theorem dX10_actsOn_134 : decode cX10_actsOn 134 = .ok (.ineg, 1) := by decide +kernel
theorem dX10_actsOn_135 : decode cX10_actsOn 135 = .ok (.invokestatic 220, 3) := by decide +kernel
theorem dX10_actsOn_138 : decode cX10_actsOn 138 = .ok (.lastore, 1) := by decide +kernel
theorem dX10_actsOn_139 : decode cX10_actsOn 139 = .ok (.goto 31, 3) := by decide +kernel
theorem dX10_actsOn_142 : decode cX10_actsOn 142 = .ok (.aload_n 0, 1) := by decide +kernel
theorem dX10_actsOn_143 : decode cX10_actsOn 143 = .ok (.getfield 34, 3) := by decide +kernel
theorem dX10_actsOn_146 : decode cX10_actsOn 146 = .ok (.iload_n 3, 1) := by decide +kernel
theorem dX10_actsOn_147 : decode cX10_actsOn 147 = .ok (.aload_n 0, 1) := by decide +kernel
theorem dX10_actsOn_148 : decode cX10_actsOn 148 = .ok (.getfield 34, 3) := by decide +kernel
theorem dX10_actsOn_151 : decode cX10_actsOn 151 = .ok (.iload 4, 2) := by decide +kernel
theorem dX10_actsOn_153 : decode cX10_actsOn 153 = .ok (.laload, 1) := by decide +kernel
theorem dX10_actsOn_154 : decode cX10_actsOn 154 = .ok (.lastore, 1) := by decide +kernel
theorem dX10_actsOn_155 : decode cX10_actsOn 155 = .ok (.goto 15, 3) := by decide +kernel
theorem dX10_actsOn_158 : decode cX10_actsOn 158 = .ok (.aload_n 0, 1) := by decide +kernel
theorem dX10_actsOn_159 : decode cX10_actsOn 159 = .ok (.getfield 34, 3) := by decide +kernel
theorem dX10_actsOn_162 : decode cX10_actsOn 162 = .ok (.iload_n 3, 1) := by decide +kernel
theorem dX10_actsOn_163 : decode cX10_actsOn 163 = .ok (.ldc2_w 224, 3) := by decide +kernel
theorem dX10_actsOn_166 : decode cX10_actsOn 166 = .ok (.lastore, 1) := by decide +kernel
theorem dX10_actsOn_167 : decode cX10_actsOn 167 = .ok (.goto 3, 3) := by decide +kernel
theorem dX10_actsOn_170 : decode cX10_actsOn 170 = .ok (.iinc 2 1, 3) := by decide +kernel
theorem dX10_actsOn_173 : decode cX10_actsOn 173 = .ok (.goto (-171), 3) := by decide +kernel
theorem dX10_actsOn_176 : decode cX10_actsOn 176 = .ok (.return_, 1) := by decide +kernel
theorem dX10_lessNumber_0 : decode cX10_lessNumber 0 = .ok (.aload_n 0, 1) := by decide +kernel
theorem dX10_lessNumber_1 : decode cX10_lessNumber 1 = .ok (.getfield 34, 3) := by decide +kernel
theorem dX10_lessNumber_4 : decode cX10_lessNumber 4 = .ok (.iload_n 1, 1) := by decide +kernel
theorem dX10_lessNumber_5 : decode cX10_lessNumber 5 = .ok (.laload, 1) := by decide +kernel
theorem dX10_lessNumber_6 : decode cX10_lessNumber 6 = .ok (.lstore 4, 2) := by decide +kernel
theorem dX10_lessNumber_8 : decode cX10_lessNumber 8 = .ok (.aload_n 0, 1) := by decide +kernel
theorem dX10_lessNumber_9 : decode cX10_lessNumber 9 = .ok (.getfield 37, 3) := by decide +kernel
theorem dX10_lessNumber_12 : decode cX10_lessNumber 12 = .ok (.iload_n 1, 1) := by decide +kernel
theorem dX10_lessNumber_13 : decode cX10_lessNumber 13 = .ok (.iload_n 3, 1) := by decide +kernel
theorem dX10_lessNumber_14 : decode cX10_lessNumber 14 = .ok (.ifCond .ne 16, 3) := by decide +kernel
theorem dX10_lessNumber_17 : decode cX10_lessNumber 17 = .ok (.lload 4, 2) := by decide +kernel
theorem dX10_lessNumber_19 : decode cX10_lessNumber 19 = .ok (.iconst 0, 1) := by decide +kernel
theorem dX10_lessNumber_20 : decode cX10_lessNumber 20 = .ok (.iload_n 2, 1) := by decide +kernel
theorem dX10_lessNumber_21 : decode cX10_lessNumber 21 = .ok (.iconst 1, 1) := by decide +kernel
theorem dX10_lessNumber_22 : decode cX10_lessNumber 22 = .ok (.isub, 1) := by decide +kernel
theorem dX10_lessNumber_23 : decode cX10_lessNumber 23 = .ok (.invokestatic 211, 3) := by decide +kernel
theorem dX10_lessNumber_26 : decode cX10_lessNumber 26 = .ok (.land, 1) := by decide +kernel
theorem dX10_lessNumber_27 : decode cX10_lessNumber 27 = .ok (.goto 16, 3) := by decide +kernel
theorem dX10_lessNumber_30 : decode cX10_lessNumber 30 = .ok (.lload 4, 2) := by decide +kernel
theorem dX10_lessNumber_32 : decode cX10_lessNumber 32 = .ok (.iload_n 2, 1) := by decide +kernel
theorem dX10_lessNumber_33 : decode cX10_lessNumber 33 = .ok (.bipush 50, 2) := by decide +kernel
theorem dX10_lessNumber_35 : decode cX10_lessNumber 35 = .ok (.invokestatic 211, 3) := by decide +kernel
theorem dX10_lessNumber_38 : decode cX10_lessNumber 38 = .ok (.ldc2_w 215, 3) := by decide +kernel
theorem dX10_lessNumber_41 : decode cX10_lessNumber 41 = .ok (.lor, 1) := by decide +kernel
theorem dX10_lessNumber_42 : decode cX10_lessNumber 42 = .ok (.land, 1) := by decide +kernel
theorem dX10_lessNumber_43 : decode cX10_lessNumber 43 = .ok (.lastore, 1) := by decide +kernel
theorem dX10_lessNumber_44 : decode cX10_lessNumber 44 = .ok (.return_, 1) := by decide +kernel
theorem dX10_lessVariable_0 : decode cX10_lessVariable 0 = .ok (.aload_n 0, 1) := by decide +kernel
theorem dX10_lessVariable_1 : decode cX10_lessVariable 1 = .ok (.getfield 34, 3) := by decide +kernel
theorem dX10_lessVariable_4 : decode cX10_lessVariable 4 = .ok (.iload_n 1, 1) := by decide +kernel
theorem dX10_lessVariable_5 : decode cX10_lessVariable 5 = .ok (.laload, 1) := by decide +kernel
theorem dX10_lessVariable_6 : decode cX10_lessVariable 6 = .ok (.ldc2_w 226, 3) := by decide +kernel
theorem dX10_lessVariable_9 : decode cX10_lessVariable 9 = .ok (.land, 1) := by decide +kernel
theorem dX10_lessVariable_10 : decode cX10_lessVariable 10 = .ok (.lstore 4, 2) := by decide +kernel
theorem dX10_lessVariable_12 : decode cX10_lessVariable 12 = .ok (.aload_n 0, 1) := by decide +kernel
theorem dX10_lessVariable_13 : decode cX10_lessVariable 13 = .ok (.getfield 34, 3) := by decide +kernel
theorem dX10_lessVariable_16 : decode cX10_lessVariable 16 = .ok (.iload_n 2, 1) := by decide +kernel
theorem dX10_lessVariable_17 : decode cX10_lessVariable 17 = .ok (.laload, 1) := by decide +kernel
theorem dX10_lessVariable_18 : decode cX10_lessVariable 18 = .ok (.ldc2_w 226, 3) := by decide +kernel
theorem dX10_lessVariable_21 : decode cX10_lessVariable 21 = .ok (.land, 1) := by decide +kernel
theorem dX10_lessVariable_22 : decode cX10_lessVariable 22 = .ok (.lstore 6, 2) := by decide +kernel
theorem dX10_lessVariable_24 : decode cX10_lessVariable 24 = .ok (.aload_n 0, 1) := by decide +kernel
theorem dX10_lessVariable_25 : decode cX10_lessVariable 25 = .ok (.getfield 34, 3) := by decide +kernel
theorem dX10_lessVariable_28 : decode cX10_lessVariable 28 = .ok (.iload_n 1, 1) := by decide +kernel
theorem dX10_lessVariable_29 : decode cX10_lessVariable 29 = .ok (.laload, 1) := by decide +kernel
theorem dX10_lessVariable_30 : decode cX10_lessVariable 30 = .ok (.aload_n 0, 1) := by decide +kernel
theorem dX10_lessVariable_31 : decode cX10_lessVariable 31 = .ok (.getfield 34, 3) := by decide +kernel
theorem dX10_lessVariable_34 : decode cX10_lessVariable 34 = .ok (.iload_n 2, 1) := by decide +kernel
theorem dX10_lessVariable_35 : decode cX10_lessVariable 35 = .ok (.laload, 1) := by decide +kernel
theorem dX10_lessVariable_36 : decode cX10_lessVariable 36 = .ok (.lor, 1) := by decide +kernel
theorem dX10_lessVariable_37 : decode cX10_lessVariable 37 = .ok (.ldc2_w 215, 3) := by decide +kernel
theorem dX10_lessVariable_40 : decode cX10_lessVariable 40 = .ok (.land, 1) := by decide +kernel
theorem dX10_lessVariable_41 : decode cX10_lessVariable 41 = .ok (.lconst 0, 1) := by decide +kernel
theorem dX10_lessVariable_42 : decode cX10_lessVariable 42 = .ok (.lcmp, 1) := by decide +kernel
theorem dX10_lessVariable_43 : decode cX10_lessVariable 43 = .ok (.ifCond .ne 7, 3) := by decide +kernel
theorem dX10_lessVariable_46 : decode cX10_lessVariable 46 = .ok (.iconst 1, 1) := by decide +kernel
theorem dX10_lessVariable_47 : decode cX10_lessVariable 47 = .ok (.goto 4, 3) := by decide +kernel
theorem dX10_lessVariable_50 : decode cX10_lessVariable 50 = .ok (.iconst 0, 1) := by decide +kernel
theorem dX10_lessVariable_51 : decode cX10_lessVariable 51 = .ok (.istore 8, 2) := by decide +kernel
theorem dX10_lessVariable_53 : decode cX10_lessVariable 53 = .ok (.iload_n 3, 1) := by decide +kernel
theorem dX10_lessVariable_54 : decode cX10_lessVariable 54 = .ok (.ifCond .ne 91, 3) := by decide +kernel
theorem dX10_lessVariable_57 : decode cX10_lessVariable 57 = .ok (.lload 4, 2) := by decide +kernel
theorem dX10_lessVariable_59 : decode cX10_lessVariable 59 = .ok (.lconst 0, 1) := by decide +kernel
theorem dX10_lessVariable_60 : decode cX10_lessVariable 60 = .ok (.lcmp, 1) := by decide +kernel
theorem dX10_lessVariable_61 : decode cX10_lessVariable 61 = .ok (.ifCond .eq 10, 3) := by decide +kernel
theorem dX10_lessVariable_64 : decode cX10_lessVariable 64 = .ok (.lload 6, 2) := by decide +kernel
theorem dX10_lessVariable_66 : decode cX10_lessVariable 66 = .ok (.lconst 0, 1) := by decide +kernel
theorem dX10_lessVariable_67 : decode cX10_lessVariable 67 = .ok (.lcmp, 1) := by decide +kernel
theorem dX10_lessVariable_68 : decode cX10_lessVariable 68 = .ok (.ifCond .ne 7, 3) := by decide +kernel
theorem dX10_lessVariable_71 : decode cX10_lessVariable 71 = .ok (.lconst 0, 1) := by decide +kernel
theorem dX10_lessVariable_72 : decode cX10_lessVariable 72 = .ok (.goto 14, 3) := by decide +kernel
theorem dX10_lessVariable_75 : decode cX10_lessVariable 75 = .ok (.iconst 0, 1) := by decide +kernel
theorem dX10_lessVariable_76 : decode cX10_lessVariable 76 = .ok (.lload 6, 2) := by decide +kernel
theorem dX10_lessVariable_78 : decode cX10_lessVariable 78 = .ok (.invokestatic 208, 3) := by decide +kernel
theorem dX10_lessVariable_81 : decode cX10_lessVariable 81 = .ok (.iconst 1, 1) := by decide +kernel
theorem dX10_lessVariable_82 : decode cX10_lessVariable 82 = .ok (.isub, 1) := by decide +kernel
theorem dX10_lessVariable_83 : decode cX10_lessVariable 83 = .ok (.invokestatic 211, 3) := by decide +kernel
theorem dX10_lessVariable_86 : decode cX10_lessVariable 86 = .ok (.lstore 9, 2) := by decide +kernel
theorem dX10_lessVariable_88 : decode cX10_lessVariable 88 = .ok (.lload 4, 2) := by decide +kernel
theorem dX10_lessVariable_90 : decode cX10_lessVariable 90 = .ok (.lconst 0, 1) := by decide +kernel
theorem dX10_lessVariable_91 : decode cX10_lessVariable 91 = .ok (.lcmp, 1) := by decide +kernel
theorem dX10_lessVariable_92 : decode cX10_lessVariable 92 = .ok (.ifCond .eq 10, 3) := by decide +kernel
theorem dX10_lessVariable_95 : decode cX10_lessVariable 95 = .ok (.lload 6, 2) := by decide +kernel
theorem dX10_lessVariable_97 : decode cX10_lessVariable 97 = .ok (.lconst 0, 1) := by decide +kernel
theorem dX10_lessVariable_98 : decode cX10_lessVariable 98 = .ok (.lcmp, 1) := by decide +kernel
theorem dX10_lessVariable_99 : decode cX10_lessVariable 99 = .ok (.ifCond .ne 7, 3) := by decide +kernel
theorem dX10_lessVariable_102 : decode cX10_lessVariable 102 = .ok (.lconst 0, 1) := by decide +kernel
theorem dX10_lessVariable_103 : decode cX10_lessVariable 103 = .ok (.goto 15, 3) := by decide +kernel
theorem dX10_lessVariable_106 : decode cX10_lessVariable 106 = .ok (.lload 4, 2) := by decide +kernel
theorem dX10_lessVariable_108 : decode cX10_lessVariable 108 = .ok (.invokestatic 204, 3) := by decide +kernel
theorem dX10_lessVariable_111 : decode cX10_lessVariable 111 = .ok (.iconst 1, 1) := by decide +kernel
theorem dX10_lessVariable_112 : decode cX10_lessVariable 112 = .ok (.iadd, 1) := by decide +kernel
theorem dX10_lessVariable_113 : decode cX10_lessVariable 113 = .ok (.bipush 50, 2) := by decide +kernel
theorem dX10_lessVariable_115 : decode cX10_lessVariable 115 = .ok (.invokestatic 211, 3) := by decide +kernel
theorem dX10_lessVariable_118 : decode cX10_lessVariable 118 = .ok (.lstore 11, 2) := by decide +kernel
theorem dX10_lessVariable_120 : decode cX10_lessVariable 120 = .ok (.aload_n 0, 1) := by decide +kernel
theorem dX10_lessVariable_121 : decode cX10_lessVariable 121 = .ok (.getfield 37, 3) := by decide +kernel
theorem dX10_lessVariable_124 : decode cX10_lessVariable 124 = .ok (.iload_n 1, 1) := by decide +kernel
theorem dX10_lessVariable_125 : decode cX10_lessVariable 125 = .ok (.dup2, 1) := by decide +kernel
theorem dX10_lessVariable_126 : decode cX10_lessVariable 126 = .ok (.laload, 1) := by decide +kernel
theorem dX10_lessVariable_127 : decode cX10_lessVariable 127 = .ok (.lload 9, 2) := by decide +kernel
theorem dX10_lessVariable_129 : decode cX10_lessVariable 129 = .ok (.land, 1) := by decide +kernel
theorem dX10_lessVariable_130 : decode cX10_lessVariable 130 = .ok (.lastore, 1) := by decide +kernel
theorem dX10_lessVariable_131 : decode cX10_lessVariable 131 = .ok (.aload_n 0, 1) := by decide +kernel
theorem dX10_lessVariable_132 : decode cX10_lessVariable 132 = .ok (.getfield 37, 3) := by decide +kernel
theorem dX10_lessVariable_135 : decode cX10_lessVariable 135 = .ok (.iload_n 2, 1) := by decide +kernel
theorem dX10_lessVariable_136 : decode cX10_lessVariable 136 = .ok (.dup2, 1) := by decide +kernel
theorem dX10_lessVariable_137 : decode cX10_lessVariable 137 = .ok (.laload, 1) := by decide +kernel
theorem dX10_lessVariable_138 : decode cX10_lessVariable 138 = .ok (.lload 11, 2) := by decide +kernel
theorem dX10_lessVariable_140 : decode cX10_lessVariable 140 = .ok (.land, 1) := by decide +kernel
theorem dX10_lessVariable_141 : decode cX10_lessVariable 141 = .ok (.lastore, 1) := by decide +kernel
theorem dX10_lessVariable_142 : decode cX10_lessVariable 142 = .ok (.goto 45, 3) := by decide +kernel
theorem dX10_lessVariable_145 : decode cX10_lessVariable 145 = .ok (.iload 8, 2) := by decide +kernel
theorem dX10_lessVariable_147 : decode cX10_lessVariable 147 = .ok (.ifCond .eq 40, 3) := by decide +kernel
theorem dX10_lessVariable_150 : decode cX10_lessVariable 150 = .ok (.aload_n 0, 1) := by decide +kernel
theorem dX10_lessVariable_151 : decode cX10_lessVariable 151 = .ok (.getfield 37, 3) := by decide +kernel
theorem dX10_lessVariable_154 : decode cX10_lessVariable 154 = .ok (.iload_n 1, 1) := by decide +kernel
theorem dX10_lessVariable_155 : decode cX10_lessVariable 155 = .ok (.dup2, 1) := by decide +kernel
theorem dX10_lessVariable_156 : decode cX10_lessVariable 156 = .ok (.laload, 1) := by decide +kernel
theorem dX10_lessVariable_157 : decode cX10_lessVariable 157 = .ok (.lload 6, 2) := by decide +kernel
theorem dX10_lessVariable_159 : decode cX10_lessVariable 159 = .ok (.invokestatic 204, 3) := by decide +kernel
theorem dX10_lessVariable_162 : decode cX10_lessVariable 162 = .ok (.bipush 50, 2) := by decide +kernel
theorem dX10_lessVariable_164 : decode cX10_lessVariable 164 = .ok (.invokestatic 211, 3) := by decide +kernel
theorem dX10_lessVariable_167 : decode cX10_lessVariable 167 = .ok (.land, 1) := by decide +kernel
theorem dX10_lessVariable_168 : decode cX10_lessVariable 168 = .ok (.lastore, 1) := by decide +kernel
theorem dX10_lessVariable_169 : decode cX10_lessVariable 169 = .ok (.aload_n 0, 1) := by decide +kernel
theorem dX10_lessVariable_170 : decode cX10_lessVariable 170 = .ok (.getfield 37, 3) := by decide +kernel
theorem dX10_lessVariable_173 : decode cX10_lessVariable 173 = .ok (.iload_n 2, 1) := by decide +kernel
theorem dX10_lessVariable_174 : decode cX10_lessVariable 174 = .ok (.dup2, 1) := by decide +kernel
theorem dX10_lessVariable_175 : decode cX10_lessVariable 175 = .ok (.laload, 1) := by decide +kernel
theorem dX10_lessVariable_176 : decode cX10_lessVariable 176 = .ok (.iconst 0, 1) := by decide +kernel
theorem dX10_lessVariable_177 : decode cX10_lessVariable 177 = .ok (.lload 4, 2) := by decide +kernel
theorem dX10_lessVariable_179 : decode cX10_lessVariable 179 = .ok (.invokestatic 208, 3) := by decide +kernel
theorem dX10_lessVariable_182 : decode cX10_lessVariable 182 = .ok (.invokestatic 211, 3) := by decide +kernel
theorem dX10_lessVariable_185 : decode cX10_lessVariable 185 = .ok (.land, 1) := by decide +kernel
theorem dX10_lessVariable_186 : decode cX10_lessVariable 186 = .ok (.lastore, 1) := by decide +kernel
theorem dX10_lessVariable_187 : decode cX10_lessVariable 187 = .ok (.return_, 1) := by decide +kernel
theorem dX10_like_0 : decode cX10_like 0 = .ok (.iload_n 2, 1) := by decide +kernel
theorem dX10_like_1 : decode cX10_like 1 = .ok (.ifCond .eq 46, 3) := by decide +kernel
theorem dX10_like_4 : decode cX10_like 4 = .ok (.iload 4, 2) := by decide +kernel
theorem dX10_like_6 : decode cX10_like 6 = .ok (.ifCond .ne 41, 3) := by decide +kernel
theorem dX10_like_9 : decode cX10_like 9 = .ok (.aload_n 0, 1) := by decide +kernel
theorem dX10_like_10 : decode cX10_like 10 = .ok (.getfield 34, 3) := by decide +kernel
theorem dX10_like_13 : decode cX10_like 13 = .ok (.iload_n 1, 1) := by decide +kernel
theorem dX10_like_14 : decode cX10_like 14 = .ok (.laload, 1) := by decide +kernel
theorem dX10_like_15 : decode cX10_like 15 = .ok (.aload_n 0, 1) := by decide +kernel
theorem dX10_like_16 : decode cX10_like 16 = .ok (.getfield 34, 3) := by decide +kernel
theorem dX10_like_19 : decode cX10_like 19 = .ok (.iload_n 3, 1) := by decide +kernel
theorem dX10_like_20 : decode cX10_like 20 = .ok (.laload, 1) := by decide +kernel
theorem dX10_like_21 : decode cX10_like 21 = .ok (.land, 1) := by decide +kernel
theorem dX10_like_22 : decode cX10_like 22 = .ok (.ldc2_w 226, 3) := by decide +kernel
theorem dX10_like_25 : decode cX10_like 25 = .ok (.land, 1) := by decide +kernel
theorem dX10_like_26 : decode cX10_like 26 = .ok (.lstore 5, 2) := by decide +kernel
theorem dX10_like_28 : decode cX10_like 28 = .ok (.aload_n 0, 1) := by decide +kernel
theorem dX10_like_29 : decode cX10_like 29 = .ok (.getfield 37, 3) := by decide +kernel
theorem dX10_like_32 : decode cX10_like 32 = .ok (.iload_n 1, 1) := by decide +kernel
theorem dX10_like_33 : decode cX10_like 33 = .ok (.lload 5, 2) := by decide +kernel
theorem dX10_like_35 : decode cX10_like 35 = .ok (.lastore, 1) := by decide +kernel
theorem dX10_like_36 : decode cX10_like 36 = .ok (.aload_n 0, 1) := by decide +kernel
theorem dX10_like_37 : decode cX10_like 37 = .ok (.getfield 37, 3) := by decide +kernel
theorem dX10_like_40 : decode cX10_like 40 = .ok (.iload_n 3, 1) := by decide +kernel
theorem dX10_like_41 : decode cX10_like 41 = .ok (.lload 5, 2) := by decide +kernel
theorem dX10_like_43 : decode cX10_like 43 = .ok (.lastore, 1) := by decide +kernel
theorem dX10_like_44 : decode cX10_like 44 = .ok (.goto 48, 3) := by decide +kernel
theorem dX10_like_47 : decode cX10_like 47 = .ok (.iload_n 2, 1) := by decide +kernel
theorem dX10_like_48 : decode cX10_like 48 = .ok (.ifCond .ne 44, 3) := by decide +kernel
theorem dX10_like_51 : decode cX10_like 51 = .ok (.aload_n 0, 1) := by decide +kernel
theorem dX10_like_52 : decode cX10_like 52 = .ok (.getfield 37, 3) := by decide +kernel
theorem dX10_like_55 : decode cX10_like 55 = .ok (.iload_n 1, 1) := by decide +kernel
theorem dX10_like_56 : decode cX10_like 56 = .ok (.iload 4, 2) := by decide +kernel
theorem dX10_like_58 : decode cX10_like 58 = .ok (.ifCond .ne 16, 3) := by decide +kernel
theorem dX10_like_61 : decode cX10_like 61 = .ok (.aload_n 0, 1) := by decide +kernel
theorem dX10_like_62 : decode cX10_like 62 = .ok (.getfield 34, 3) := by decide +kernel
theorem dX10_like_65 : decode cX10_like 65 = .ok (.iload_n 1, 1) := by decide +kernel
theorem dX10_like_66 : decode cX10_like 66 = .ok (.laload, 1) := by decide +kernel
theorem dX10_like_67 : decode cX10_like 67 = .ok (.lconst 1, 1) := by decide +kernel
theorem dX10_like_68 : decode cX10_like 68 = .ok (.iload_n 3, 1) := by decide +kernel
theorem dX10_like_69 : decode cX10_like 69 = .ok (.lshl, 1) := by decide +kernel
theorem dX10_like_70 : decode cX10_like 70 = .ok (.land, 1) := by decide +kernel
theorem dX10_like_71 : decode cX10_like 71 = .ok (.goto 20, 3) := by decide +kernel
theorem dX10_like_74 : decode cX10_like 74 = .ok (.aload_n 0, 1) := by decide +kernel
theorem dX10_like_75 : decode cX10_like 75 = .ok (.getfield 34, 3) := by decide +kernel
theorem dX10_like_78 : decode cX10_like 78 = .ok (.iload_n 1, 1) := by decide +kernel
theorem dX10_like_79 : decode cX10_like 79 = .ok (.laload, 1) := by decide +kernel
theorem dX10_like_80 : decode cX10_like 80 = .ok (.lconst 1, 1) := by decide +kernel
theorem dX10_like_81 : decode cX10_like 81 = .ok (.iload_n 3, 1) := by decide +kernel
theorem dX10_like_82 : decode cX10_like 82 = .ok (.lshl, 1) := by decide +kernel
theorem dX10_like_83 : decode cX10_like 83 = .ok (.ldc2_w 228, 3) := by decide +kernel
theorem dX10_like_86 : decode cX10_like 86 = .ok (.lxor, 1) := by decide +kernel
theorem dX10_like_87 : decode cX10_like 87 = .ok (.land, 1) := by decide +kernel
theorem dX10_like_88 : decode cX10_like 88 = .ok (.invokestatic 230, 3) := by decide +kernel
theorem dX10_like_91 : decode cX10_like 91 = .ok (.lastore, 1) := by decide +kernel
theorem dX10_like_92 : decode cX10_like 92 = .ok (.return_, 1) := by decide +kernel
theorem dX10_goesAlong_0 : decode cX10_goesAlong 0 = .ok (.iconst 0, 1) := by decide +kernel
theorem dX10_goesAlong_1 : decode cX10_goesAlong 1 = .ok (.istore_n 3, 1) := by decide +kernel
theorem dX10_goesAlong_2 : decode cX10_goesAlong 2 = .ok (.iload_n 3, 1) := by decide +kernel
theorem dX10_goesAlong_3 : decode cX10_goesAlong 3 = .ok (.iconst 4, 1) := by decide +kernel
theorem dX10_goesAlong_4 : decode cX10_goesAlong 4 = .ok (.if_icmp .ge 21, 3) := by decide +kernel
theorem dX10_goesAlong_7 : decode cX10_goesAlong 7 = .ok (.aload_n 0, 1) := by decide +kernel
theorem dX10_goesAlong_8 : decode cX10_goesAlong 8 = .ok (.getfield 37, 3) := by decide +kernel
theorem dX10_goesAlong_11 : decode cX10_goesAlong 11 = .ok (.iload_n 3, 1) := by decide +kernel
theorem dX10_goesAlong_12 : decode cX10_goesAlong 12 = .ok (.aload_n 0, 1) := by decide +kernel
theorem dX10_goesAlong_13 : decode cX10_goesAlong 13 = .ok (.getfield 34, 3) := by decide +kernel
theorem dX10_goesAlong_16 : decode cX10_goesAlong 16 = .ok (.iload_n 3, 1) := by decide +kernel
theorem dX10_goesAlong_17 : decode cX10_goesAlong 17 = .ok (.laload, 1) := by decide +kernel
theorem dX10_goesAlong_18 : decode cX10_goesAlong 18 = .ok (.lastore, 1) := by decide +kernel
theorem dX10_goesAlong_19 : decode cX10_goesAlong 19 = .ok (.iinc 3 1, 3) := by decide +kernel
theorem dX10_goesAlong_22 : decode cX10_goesAlong 22 = .ok (.goto (-20), 3) := by decide +kernel
theorem dX10_goesAlong_25 : decode cX10_goesAlong 25 = .ok (.aload_n 0, 1) := by decide +kernel
theorem dX10_goesAlong_26 : decode cX10_goesAlong 26 = .ok (.iconst 1, 1) := by decide +kernel
theorem dX10_goesAlong_27 : decode cX10_goesAlong 27 = .ok (.iload_n 1, 1) := by decide +kernel
theorem dX10_goesAlong_28 : decode cX10_goesAlong 28 = .ok (.bipush 16, 2) := by decide +kernel
theorem dX10_goesAlong_30 : decode cX10_goesAlong 30 = .ok (.invokevirtual 175, 3) := by decide +kernel
theorem dX10_goesAlong_33 : decode cX10_goesAlong 33 = .ok (.istore_n 3, 1) := by decide +kernel
theorem dX10_goesAlong_34 : decode cX10_goesAlong 34 = .ok (.aload_n 0, 1) := by decide +kernel
theorem dX10_goesAlong_35 : decode cX10_goesAlong 35 = .ok (.iconst 1, 1) := by decide +kernel
theorem dX10_goesAlong_36 : decode cX10_goesAlong 36 = .ok (.iload_n 1, 1) := by decide +kernel
theorem dX10_goesAlong_37 : decode cX10_goesAlong 37 = .ok (.bipush 18, 2) := by decide +kernel
theorem dX10_goesAlong_39 : decode cX10_goesAlong 39 = .ok (.invokevirtual 175, 3) := by decide +kernel
theorem dX10_goesAlong_42 : decode cX10_goesAlong 42 = .ok (.istore 4, 2) := by decide +kernel
theorem dX10_goesAlong_44 : decode cX10_goesAlong 44 = .ok (.aload_n 0, 1) := by decide +kernel
theorem dX10_goesAlong_45 : decode cX10_goesAlong 45 = .ok (.iconst 1, 1) := by decide +kernel
theorem dX10_goesAlong_46 : decode cX10_goesAlong 46 = .ok (.iload_n 1, 1) := by decide +kernel
theorem dX10_goesAlong_47 : decode cX10_goesAlong 47 = .ok (.bipush 17, 2) := by decide +kernel
theorem dX10_goesAlong_49 : decode cX10_goesAlong 49 = .ok (.invokevirtual 175, 3) := by decide +kernel
theorem dX10_goesAlong_52 : decode cX10_goesAlong 52 = .ok (.iconst 1, 1) := by decide +kernel
theorem dX10_goesAlong_53 : decode cX10_goesAlong 53 = .ok (.if_icmp .ne 7, 3) := by decide +kernel
theorem dX10_goesAlong_56 : decode cX10_goesAlong 56 = .ok (.iconst 1, 1) := by decide +kernel
theorem dX10_goesAlong_57 : decode cX10_goesAlong 57 = .ok (.goto 4, 3) := by decide +kernel
theorem dX10_goesAlong_60 : decode cX10_goesAlong 60 = .ok (.iconst 0, 1) := by decide +kernel
theorem dX10_goesAlong_61 : decode cX10_goesAlong 61 = .ok (.istore 5, 2) := by decide +kernel
theorem dX10_goesAlong_63 : decode cX10_goesAlong 63 = .ok (.aload_n 0, 1) := by decide +kernel
theorem dX10_goesAlong_64 : decode cX10_goesAlong 64 = .ok (.iconst 1, 1) := by decide +kernel
theorem dX10_goesAlong_65 : decode cX10_goesAlong 65 = .ok (.iload_n 1, 1) := by decide +kernel
theorem dX10_goesAlong_66 : decode cX10_goesAlong 66 = .ok (.bipush 13, 2) := by decide +kernel
theorem dX10_goesAlong_68 : decode cX10_goesAlong 68 = .ok (.invokevirtual 175, 3) := by decide +kernel
theorem dX10_goesAlong_71 : decode cX10_goesAlong 71 = .ok (.iconst 3, 1) := by decide +kernel
theorem dX10_goesAlong_72 : decode cX10_goesAlong 72 = .ok (.if_icmp .ne 16, 3) := by decide +kernel
theorem dX10_goesAlong_75 : decode cX10_goesAlong 75 = .ok (.aload_n 0, 1) := by decide +kernel
theorem dX10_goesAlong_76 : decode cX10_goesAlong 76 = .ok (.iload_n 3, 1) := by decide +kernel
theorem dX10_goesAlong_77 : decode cX10_goesAlong 77 = .ok (.iload 5, 2) := by decide +kernel
theorem dX10_goesAlong_79 : decode cX10_goesAlong 79 = .ok (.iload 4, 2) := by decide +kernel
theorem dX10_goesAlong_81 : decode cX10_goesAlong 81 = .ok (.iload_n 2, 1) := by decide +kernel
theorem dX10_goesAlong_82 : decode cX10_goesAlong 82 = .ok (.invokevirtual 234, 3) := by decide +kernel
theorem dX10_goesAlong_85 : decode cX10_goesAlong 85 = .ok (.goto 51, 3) := by decide +kernel
theorem dX10_goesAlong_88 : decode cX10_goesAlong 88 = .ok (.aload_n 0, 1) := by decide +kernel
theorem dX10_goesAlong_89 : decode cX10_goesAlong 89 = .ok (.iconst 1, 1) := by decide +kernel
theorem dX10_goesAlong_90 : decode cX10_goesAlong 90 = .ok (.iload_n 1, 1) := by decide +kernel
theorem dX10_goesAlong_91 : decode cX10_goesAlong 91 = .ok (.bipush 13, 2) := by decide +kernel
theorem dX10_goesAlong_93 : decode cX10_goesAlong 93 = .ok (.invokevirtual 175, 3) := by decide +kernel
theorem dX10_goesAlong_96 : decode cX10_goesAlong 96 = .ok (.iconst 2, 1) := by decide +kernel
theorem dX10_goesAlong_97 : decode cX10_goesAlong 97 = .ok (.if_icmp .ne 19, 3) := by decide +kernel
theorem dX10_goesAlong_100 : decode cX10_goesAlong 100 = .ok (.iload 5, 2) := by decide +kernel
theorem dX10_goesAlong_102 : decode cX10_goesAlong 102 = .ok (.ifCond .eq 14, 3) := by decide +kernel
theorem dX10_goesAlong_105 : decode cX10_goesAlong 105 = .ok (.aload_n 0, 1) := by decide +kernel
theorem dX10_goesAlong_106 : decode cX10_goesAlong 106 = .ok (.iload_n 3, 1) := by decide +kernel
theorem dX10_goesAlong_107 : decode cX10_goesAlong 107 = .ok (.iload 4, 2) := by decide +kernel
theorem dX10_goesAlong_109 : decode cX10_goesAlong 109 = .ok (.iload_n 2, 1) := by decide +kernel
theorem dX10_goesAlong_110 : decode cX10_goesAlong 110 = .ok (.invokevirtual 238, 3) := by decide +kernel
theorem dX10_goesAlong_113 : decode cX10_goesAlong 113 = .ok (.goto 23, 3) := by decide +kernel
theorem dX10_goesAlong_116 : decode cX10_goesAlong 116 = .ok (.aload_n 0, 1) := by decide +kernel
theorem dX10_goesAlong_117 : decode cX10_goesAlong 117 = .ok (.iconst 1, 1) := by decide +kernel
theorem dX10_goesAlong_118 : decode cX10_goesAlong 118 = .ok (.iload_n 1, 1) := by decide +kernel
theorem dX10_goesAlong_119 : decode cX10_goesAlong 119 = .ok (.bipush 13, 2) := by decide +kernel
theorem dX10_goesAlong_121 : decode cX10_goesAlong 121 = .ok (.invokevirtual 175, 3) := by decide +kernel
theorem dX10_goesAlong_124 : decode cX10_goesAlong 124 = .ok (.iconst 2, 1) := by decide +kernel
theorem dX10_goesAlong_125 : decode cX10_goesAlong 125 = .ok (.if_icmp .ne 11, 3) := by decide +kernel
theorem dX10_goesAlong_128 : decode cX10_goesAlong 128 = .ok (.aload_n 0, 1) := by decide +kernel
theorem dX10_goesAlong_129 : decode cX10_goesAlong 129 = .ok (.iload_n 3, 1) := by decide +kernel
theorem dX10_goesAlong_130 : decode cX10_goesAlong 130 = .ok (.iload 4, 2) := by decide +kernel
theorem dX10_goesAlong_132 : decode cX10_goesAlong 132 = .ok (.iload_n 2, 1) := by decide +kernel
theorem dX10_goesAlong_133 : decode cX10_goesAlong 133 = .ok (.invokevirtual 242, 3) := by decide +kernel
theorem dX10_goesAlong_136 : decode cX10_goesAlong 136 = .ok (.aload_n 0, 1) := by decide +kernel
theorem dX10_goesAlong_137 : decode cX10_goesAlong 137 = .ok (.getfield 37, 3) := by decide +kernel
theorem dX10_goesAlong_140 : decode cX10_goesAlong 140 = .ok (.iconst 0, 1) := by decide +kernel
theorem dX10_goesAlong_141 : decode cX10_goesAlong 141 = .ok (.laload, 1) := by decide +kernel
theorem dX10_goesAlong_142 : decode cX10_goesAlong 142 = .ok (.lconst 0, 1) := by decide +kernel
theorem dX10_goesAlong_143 : decode cX10_goesAlong 143 = .ok (.lcmp, 1) := by decide +kernel
theorem dX10_goesAlong_144 : decode cX10_goesAlong 144 = .ok (.ifCond .eq 40, 3) := by decide +kernel
theorem dX10_goesAlong_147 : decode cX10_goesAlong 147 = .ok (.aload_n 0, 1) := by decide +kernel
theorem dX10_goesAlong_148 : decode cX10_goesAlong 148 = .ok (.getfield 37, 3) := by decide +kernel
theorem dX10_goesAlong_151 : decode cX10_goesAlong 151 = .ok (.iconst 1, 1) := by decide +kernel
theorem dX10_goesAlong_152 : decode cX10_goesAlong 152 = .ok (.laload, 1) := by decide +kernel
theorem dX10_goesAlong_153 : decode cX10_goesAlong 153 = .ok (.lconst 0, 1) := by decide +kernel
theorem dX10_goesAlong_154 : decode cX10_goesAlong 154 = .ok (.lcmp, 1) := by decide +kernel
theorem dX10_goesAlong_155 : decode cX10_goesAlong 155 = .ok (.ifCond .eq 29, 3) := by decide +kernel
theorem dX10_goesAlong_158 : decode cX10_goesAlong 158 = .ok (.aload_n 0, 1) := by decide +kernel
theorem dX10_goesAlong_159 : decode cX10_goesAlong 159 = .ok (.getfield 37, 3) := by decide +kernel
theorem dX10_goesAlong_162 : decode cX10_goesAlong 162 = .ok (.iconst 2, 1) := by decide +kernel
theorem dX10_goesAlong_163 : decode cX10_goesAlong 163 = .ok (.laload, 1) := by decide +kernel
theorem dX10_goesAlong_164 : decode cX10_goesAlong 164 = .ok (.lconst 0, 1) := by decide +kernel
theorem dX10_goesAlong_165 : decode cX10_goesAlong 165 = .ok (.lcmp, 1) := by decide +kernel
theorem dX10_goesAlong_166 : decode cX10_goesAlong 166 = .ok (.ifCond .eq 18, 3) := by decide +kernel
theorem dX10_goesAlong_169 : decode cX10_goesAlong 169 = .ok (.aload_n 0, 1) := by decide +kernel
theorem dX10_goesAlong_170 : decode cX10_goesAlong 170 = .ok (.getfield 37, 3) := by decide +kernel
theorem dX10_goesAlong_173 : decode cX10_goesAlong 173 = .ok (.iconst 3, 1) := by decide +kernel
theorem dX10_goesAlong_174 : decode cX10_goesAlong 174 = .ok (.laload, 1) := by decide +kernel
theorem dX10_goesAlong_175 : decode cX10_goesAlong 175 = .ok (.lconst 0, 1) := by decide +kernel
theorem dX10_goesAlong_176 : decode cX10_goesAlong 176 = .ok (.lcmp, 1) := by decide +kernel
theorem dX10_goesAlong_177 : decode cX10_goesAlong 177 = .ok (.ifCond .eq 7, 3) := by decide +kernel
theorem dX10_goesAlong_180 : decode cX10_goesAlong 180 = .ok (.iconst 1, 1) := by decide +kernel
theorem dX10_goesAlong_181 : decode cX10_goesAlong 181 = .ok (.goto 4, 3) := by decide +kernel
theorem dX10_goesAlong_184 : decode cX10_goesAlong 184 = .ok (.iconst 0, 1) := by decide +kernel
theorem dX10_goesAlong_185 : decode cX10_goesAlong 185 = .ok (.ireturn, 1) := by decide +kernel
theorem dX10_isReached_0 : decode cX10_isReached 0 = .ok (.aload_n 0, 1) := by decide +kernel
theorem dX10_isReached_1 : decode cX10_isReached 1 = .ok (.getfield 30, 3) := by decide +kernel
theorem dX10_isReached_4 : decode cX10_isReached 4 = .ok (.iconst 4, 1) := by decide +kernel
theorem dX10_isReached_5 : decode cX10_isReached 5 = .ok (.iload_n 1, 1) := by decide +kernel
theorem dX10_isReached_6 : decode cX10_isReached 6 = .ok (.imul, 1) := by decide +kernel
theorem dX10_isReached_7 : decode cX10_isReached 7 = .ok (.laload, 1) := by decide +kernel
theorem dX10_isReached_8 : decode cX10_isReached 8 = .ok (.lconst 0, 1) := by decide +kernel
theorem dX10_isReached_9 : decode cX10_isReached 9 = .ok (.lcmp, 1) := by decide +kernel
theorem dX10_isReached_10 : decode cX10_isReached 10 = .ok (.ifCond .eq 7, 3) := by decide +kernel
theorem dX10_isReached_13 : decode cX10_isReached 13 = .ok (.iconst 1, 1) := by decide +kernel
theorem dX10_isReached_14 : decode cX10_isReached 14 = .ok (.goto 4, 3) := by decide +kernel
theorem dX10_isReached_17 : decode cX10_isReached 17 = .ok (.iconst 0, 1) := by decide +kernel
theorem dX10_isReached_18 : decode cX10_isReached 18 = .ok (.ireturn, 1) := by decide +kernel
theorem dX10_comesTo_0 : decode cX10_comesTo 0 = .ok (.iconst 0, 1) := by decide +kernel
theorem dX10_comesTo_1 : decode cX10_comesTo 1 = .ok (.istore_n 2, 1) := by decide +kernel
theorem dX10_comesTo_2 : decode cX10_comesTo 2 = .ok (.iload_n 2, 1) := by decide +kernel
theorem dX10_comesTo_3 : decode cX10_comesTo 3 = .ok (.iconst 4, 1) := by decide +kernel
theorem dX10_comesTo_4 : decode cX10_comesTo 4 = .ok (.if_icmp .ge 25, 3) := by decide +kernel
theorem dX10_comesTo_7 : decode cX10_comesTo 7 = .ok (.aload_n 0, 1) := by decide +kernel
theorem dX10_comesTo_8 : decode cX10_comesTo 8 = .ok (.getfield 34, 3) := by decide +kernel
theorem dX10_comesTo_11 : decode cX10_comesTo 11 = .ok (.iload_n 2, 1) := by decide +kernel
theorem dX10_comesTo_12 : decode cX10_comesTo 12 = .ok (.aload_n 0, 1) := by decide +kernel
theorem dX10_comesTo_13 : decode cX10_comesTo 13 = .ok (.getfield 30, 3) := by decide +kernel
theorem dX10_comesTo_16 : decode cX10_comesTo 16 = .ok (.iconst 4, 1) := by decide +kernel
theorem dX10_comesTo_17 : decode cX10_comesTo 17 = .ok (.iload_n 1, 1) := by decide +kernel
theorem dX10_comesTo_18 : decode cX10_comesTo 18 = .ok (.imul, 1) := by decide +kernel
theorem dX10_comesTo_19 : decode cX10_comesTo 19 = .ok (.iload_n 2, 1) := by decide +kernel
theorem dX10_comesTo_20 : decode cX10_comesTo 20 = .ok (.iadd, 1) := by decide +kernel
theorem dX10_comesTo_21 : decode cX10_comesTo 21 = .ok (.laload, 1) := by decide +kernel
theorem dX10_comesTo_22 : decode cX10_comesTo 22 = .ok (.lastore, 1) := by decide +kernel
theorem dX10_comesTo_23 : decode cX10_comesTo 23 = .ok (.iinc 2 1, 3) := by decide +kernel
theorem dX10_comesTo_26 : decode cX10_comesTo 26 = .ok (.goto (-24), 3) := by decide +kernel
theorem dX10_comesTo_29 : decode cX10_comesTo 29 = .ok (.aload_n 0, 1) := by decide +kernel
theorem dX10_comesTo_30 : decode cX10_comesTo 30 = .ok (.iload_n 1, 1) := by decide +kernel
theorem dX10_comesTo_31 : decode cX10_comesTo 31 = .ok (.invokevirtual 245, 3) := by decide +kernel
theorem dX10_comesTo_34 : decode cX10_comesTo 34 = .ok (.return_, 1) := by decide +kernel
theorem dX10_brings_0 : decode cX10_brings 0 = .ok (.aload_n 0, 1) := by decide +kernel
theorem dX10_brings_1 : decode cX10_brings 1 = .ok (.iload_n 1, 1) := by decide +kernel
theorem dX10_brings_2 : decode cX10_brings 2 = .ok (.iload_n 2, 1) := by decide +kernel
theorem dX10_brings_3 : decode cX10_brings 3 = .ok (.invokevirtual 248, 3) := by decide +kernel
theorem dX10_brings_6 : decode cX10_brings 6 = .ok (.ifCond .ne 5, 3) := by decide +kernel
theorem dX10_brings_9 : decode cX10_brings 9 = .ok (.iconst 0, 1) := by decide +kernel
theorem dX10_brings_10 : decode cX10_brings 10 = .ok (.ireturn, 1) := by decide +kernel
theorem dX10_brings_11 : decode cX10_brings 11 = .ok (.iconst 4, 1) := by decide +kernel
theorem dX10_brings_12 : decode cX10_brings 12 = .ok (.aload_n 0, 1) := by decide +kernel
theorem dX10_brings_13 : decode cX10_brings 13 = .ok (.iconst 1, 1) := by decide +kernel
theorem dX10_brings_14 : decode cX10_brings 14 = .ok (.iload_n 1, 1) := by decide +kernel
theorem dX10_brings_15 : decode cX10_brings 15 = .ok (.bipush 14, 2) := by decide +kernel
theorem dX10_brings_17 : decode cX10_brings 17 = .ok (.iload_n 2, 1) := by decide +kernel
theorem dX10_brings_18 : decode cX10_brings 18 = .ok (.iadd, 1) := by decide +kernel
theorem dX10_brings_19 : decode cX10_brings 19 = .ok (.invokevirtual 175, 3) := by decide +kernel
theorem dX10_brings_22 : decode cX10_brings 22 = .ok (.imul, 1) := by decide +kernel
theorem dX10_brings_23 : decode cX10_brings 23 = .ok (.istore_n 3, 1) := by decide +kernel
theorem dX10_brings_24 : decode cX10_brings 24 = .ok (.iconst 0, 1) := by decide +kernel
theorem dX10_brings_25 : decode cX10_brings 25 = .ok (.istore 4, 2) := by decide +kernel
theorem dX10_brings_27 : decode cX10_brings 27 = .ok (.iconst 0, 1) := by decide +kernel
theorem dX10_brings_28 : decode cX10_brings 28 = .ok (.istore 5, 2) := by decide +kernel
theorem dX10_brings_30 : decode cX10_brings 30 = .ok (.iload 5, 2) := by decide +kernel
theorem dX10_brings_32 : decode cX10_brings 32 = .ok (.iconst 4, 1) := by decide +kernel
theorem dX10_brings_33 : decode cX10_brings 33 = .ok (.if_icmp .ge 69, 3) := by decide +kernel
theorem dX10_brings_36 : decode cX10_brings 36 = .ok (.aload_n 0, 1) := by decide +kernel
theorem dX10_brings_37 : decode cX10_brings 37 = .ok (.getfield 30, 3) := by decide +kernel
theorem dX10_brings_40 : decode cX10_brings 40 = .ok (.iload_n 3, 1) := by decide +kernel
theorem dX10_brings_41 : decode cX10_brings 41 = .ok (.iload 5, 2) := by decide +kernel
theorem dX10_brings_43 : decode cX10_brings 43 = .ok (.iadd, 1) := by decide +kernel
theorem dX10_brings_44 : decode cX10_brings 44 = .ok (.laload, 1) := by decide +kernel
theorem dX10_brings_45 : decode cX10_brings 45 = .ok (.aload_n 0, 1) := by decide +kernel
theorem dX10_brings_46 : decode cX10_brings 46 = .ok (.getfield 37, 3) := by decide +kernel
theorem dX10_brings_49 : decode cX10_brings 49 = .ok (.iload 5, 2) := by decide +kernel
theorem dX10_brings_51 : decode cX10_brings 51 = .ok (.laload, 1) := by decide +kernel
theorem dX10_brings_52 : decode cX10_brings 52 = .ok (.lor, 1) := by decide +kernel
theorem dX10_brings_53 : decode cX10_brings 53 = .ok (.invokestatic 230, 3) := by decide +kernel
theorem dX10_brings_56 : decode cX10_brings 56 = .ok (.lstore 6, 2) := by decide +kernel
theorem dX10_brings_58 : decode cX10_brings 58 = .ok (.iload 4, 2) := by decide +kernel
theorem dX10_brings_60 : decode cX10_brings 60 = .ok (.ifCond .ne 18, 3) := by decide +kernel
theorem dX10_brings_63 : decode cX10_brings 63 = .ok (.lload 6, 2) := by decide +kernel
theorem dX10_brings_65 : decode cX10_brings 65 = .ok (.aload_n 0, 1) := by decide +kernel
theorem dX10_brings_66 : decode cX10_brings 66 = .ok (.getfield 30, 3) := by decide +kernel
theorem dX10_brings_69 : decode cX10_brings 69 = .ok (.iload_n 3, 1) := by decide +kernel
theorem dX10_brings_70 : decode cX10_brings 70 = .ok (.iload 5, 2) := by decide +kernel
theorem dX10_brings_72 : decode cX10_brings 72 = .ok (.iadd, 1) := by decide +kernel
theorem dX10_brings_73 : decode cX10_brings 73 = .ok (.laload, 1) := by decide +kernel
theorem dX10_brings_74 : decode cX10_brings 74 = .ok (.lcmp, 1) := by decide +kernel
theorem dX10_brings_75 : decode cX10_brings 75 = .ok (.ifCond .eq 7, 3) := by decide +kernel
theorem dX10_brings_78 : decode cX10_brings 78 = .ok (.iconst 1, 1) := by decide +kernel
theorem dX10_brings_79 : decode cX10_brings 79 = .ok (.goto 4, 3) := by decide +kernel
theorem dX10_brings_82 : decode cX10_brings 82 = .ok (.iconst 0, 1) := by decide +kernel
theorem dX10_brings_83 : decode cX10_brings 83 = .ok (.istore 4, 2) := by decide +kernel
theorem dX10_brings_85 : decode cX10_brings 85 = .ok (.aload_n 0, 1) := by decide +kernel
theorem dX10_brings_86 : decode cX10_brings 86 = .ok (.getfield 30, 3) := by decide +kernel
theorem dX10_brings_89 : decode cX10_brings 89 = .ok (.iload_n 3, 1) := by decide +kernel
theorem dX10_brings_90 : decode cX10_brings 90 = .ok (.iload 5, 2) := by decide +kernel
theorem dX10_brings_92 : decode cX10_brings 92 = .ok (.iadd, 1) := by decide +kernel
theorem dX10_brings_93 : decode cX10_brings 93 = .ok (.lload 6, 2) := by decide +kernel
theorem dX10_brings_95 : decode cX10_brings 95 = .ok (.lastore, 1) := by decide +kernel
theorem dX10_brings_96 : decode cX10_brings 96 = .ok (.iinc 5 1, 3) := by decide +kernel
theorem dX10_brings_99 : decode cX10_brings 99 = .ok (.goto (-69), 3) := by decide +kernel
theorem dX10_brings_102 : decode cX10_brings 102 = .ok (.iload 4, 2) := by decide +kernel
theorem dX10_brings_104 : decode cX10_brings 104 = .ok (.ireturn, 1) := by decide +kernel
theorem dX10_findRanges_0 : decode cX10_findRanges 0 = .ok (.iconst 0, 1) := by decide +kernel
theorem dX10_findRanges_1 : decode cX10_findRanges 1 = .ok (.istore_n 1, 1) := by decide +kernel
theorem dX10_findRanges_2 : decode cX10_findRanges 2 = .ok (.iload_n 1, 1) := by decide +kernel
theorem dX10_findRanges_3 : decode cX10_findRanges 3 = .ok (.bipush 64, 2) := by decide +kernel
theorem dX10_findRanges_5 : decode cX10_findRanges 5 = .ok (.if_icmp .ge 16, 3) := by decide +kernel
theorem dX10_findRanges_8 : decode cX10_findRanges 8 = .ok (.aload_n 0, 1) := by decide +kernel
theorem dX10_findRanges_9 : decode cX10_findRanges 9 = .ok (.getfield 30, 3) := by decide +kernel
theorem dX10_findRanges_12 : decode cX10_findRanges 12 = .ok (.iload_n 1, 1) := by decide +kernel
theorem dX10_findRanges_13 : decode cX10_findRanges 13 = .ok (.lconst 0, 1) := by decide +kernel
theorem dX10_findRanges_14 : decode cX10_findRanges 14 = .ok (.lastore, 1) := by decide +kernel
theorem dX10_findRanges_15 : decode cX10_findRanges 15 = .ok (.iinc 1 1, 3) := by decide +kernel
theorem dX10_findRanges_18 : decode cX10_findRanges 18 = .ok (.goto (-16), 3) := by decide +kernel
theorem dX10_findRanges_21 : decode cX10_findRanges 21 = .ok (.iconst 0, 1) := by decide +kernel
theorem dX10_findRanges_22 : decode cX10_findRanges 22 = .ok (.istore_n 1, 1) := by decide +kernel
theorem dX10_findRanges_23 : decode cX10_findRanges 23 = .ok (.iload_n 1, 1) := by decide +kernel
theorem dX10_findRanges_24 : decode cX10_findRanges 24 = .ok (.iconst 4, 1) := by decide +kernel
theorem dX10_findRanges_25 : decode cX10_findRanges 25 = .ok (.if_icmp .ge 26, 3) := by decide +kernel
theorem dX10_findRanges_28 : decode cX10_findRanges 28 = .ok (.aload_n 0, 1) := by decide +kernel
theorem dX10_findRanges_29 : decode cX10_findRanges 29 = .ok (.iconst 1, 1) := by decide +kernel
theorem dX10_findRanges_30 : decode cX10_findRanges 30 = .ok (.invokevirtual 172, 3) := by decide +kernel
theorem dX10_findRanges_33 : decode cX10_findRanges 33 = .ok (.ifCond .le 18, 3) := by decide +kernel
theorem dX10_findRanges_36 : decode cX10_findRanges 36 = .ok (.aload_n 0, 1) := by decide +kernel
theorem dX10_findRanges_37 : decode cX10_findRanges 37 = .ok (.getfield 30, 3) := by decide +kernel
theorem dX10_findRanges_40 : decode cX10_findRanges 40 = .ok (.iload_n 1, 1) := by decide +kernel
theorem dX10_findRanges_41 : decode cX10_findRanges 41 = .ok (.ldc2_w 215, 3) := by decide +kernel
theorem dX10_findRanges_44 : decode cX10_findRanges 44 = .ok (.lastore, 1) := by decide +kernel
theorem dX10_findRanges_45 : decode cX10_findRanges 45 = .ok (.iinc 1 1, 3) := by decide +kernel
theorem dX10_findRanges_48 : decode cX10_findRanges 48 = .ok (.goto (-25), 3) := by decide +kernel
theorem dX10_findRanges_51 : decode cX10_findRanges 51 = .ok (.iconst 1, 1) := by decide +kernel
theorem dX10_findRanges_52 : decode cX10_findRanges 52 = .ok (.istore_n 1, 1) := by decide +kernel
theorem dX10_findRanges_53 : decode cX10_findRanges 53 = .ok (.iload_n 1, 1) := by decide +kernel
theorem dX10_findRanges_54 : decode cX10_findRanges 54 = .ok (.ifCond .eq 75, 3) := by decide +kernel
theorem dX10_findRanges_57 : decode cX10_findRanges 57 = .ok (.iconst 0, 1) := by decide +kernel
theorem dX10_findRanges_58 : decode cX10_findRanges 58 = .ok (.istore_n 1, 1) := by decide +kernel
theorem dX10_findRanges_59 : decode cX10_findRanges 59 = .ok (.iconst 0, 1) := by decide +kernel
theorem dX10_findRanges_60 : decode cX10_findRanges 60 = .ok (.istore_n 2, 1) := by decide +kernel
theorem dX10_findRanges_61 : decode cX10_findRanges 61 = .ok (.iload_n 2, 1) := by decide +kernel
theorem dX10_findRanges_62 : decode cX10_findRanges 62 = .ok (.aload_n 0, 1) := by decide +kernel
theorem dX10_findRanges_63 : decode cX10_findRanges 63 = .ok (.iconst 1, 1) := by decide +kernel
theorem dX10_findRanges_64 : decode cX10_findRanges 64 = .ok (.invokevirtual 172, 3) := by decide +kernel
theorem dX10_findRanges_67 : decode cX10_findRanges 67 = .ok (.if_icmp .ge 59, 3) := by decide +kernel
theorem dX10_findRanges_70 : decode cX10_findRanges 70 = .ok (.iconst 0, 1) := by decide +kernel
theorem dX10_findRanges_71 : decode cX10_findRanges 71 = .ok (.istore_n 3, 1) := by decide +kernel
theorem dX10_findRanges_72 : decode cX10_findRanges 72 = .ok (.iload_n 3, 1) := by decide +kernel
theorem dX10_findRanges_73 : decode cX10_findRanges 73 = .ok (.aload_n 0, 1) := by decide +kernel
theorem dX10_findRanges_74 : decode cX10_findRanges 74 = .ok (.iconst 1, 1) := by decide +kernel
theorem dX10_findRanges_75 : decode cX10_findRanges 75 = .ok (.iload_n 2, 1) := by decide +kernel
theorem dX10_findRanges_76 : decode cX10_findRanges 76 = .ok (.invokevirtual 182, 3) := by decide +kernel
theorem dX10_findRanges_79 : decode cX10_findRanges 79 = .ok (.if_icmp .ge 41, 3) := by decide +kernel
theorem dX10_findRanges_82 : decode cX10_findRanges 82 = .ok (.aload_n 0, 1) := by decide +kernel
theorem dX10_findRanges_83 : decode cX10_findRanges 83 = .ok (.iload_n 2, 1) := by decide +kernel
theorem dX10_findRanges_84 : decode cX10_findRanges 84 = .ok (.invokevirtual 251, 3) := by decide +kernel
theorem dX10_findRanges_87 : decode cX10_findRanges 87 = .ok (.ifCond .eq 33, 3) := by decide +kernel
theorem dX10_findRanges_90 : decode cX10_findRanges 90 = .ok (.aload_n 0, 1) := by decide +kernel
theorem dX10_findRanges_91 : decode cX10_findRanges 91 = .ok (.iload_n 2, 1) := by decide +kernel
theorem dX10_findRanges_92 : decode cX10_findRanges 92 = .ok (.invokevirtual 254, 3) := by decide +kernel
theorem dX10_findRanges_95 : decode cX10_findRanges 95 = .ok (.aload_n 0, 1) := by decide +kernel
theorem dX10_findRanges_96 : decode cX10_findRanges 96 = .ok (.iload_n 2, 1) := by decide +kernel
theorem dX10_findRanges_97 : decode cX10_findRanges 97 = .ok (.iload_n 3, 1) := by decide +kernel
theorem dX10_findRanges_98 : decode cX10_findRanges 98 = .ok (.invokevirtual 257, 3) := by decide +kernel
theorem dX10_findRanges_101 : decode cX10_findRanges 101 = .ok (.ifCond .ne 7, 3) := by decide +kernel
theorem dX10_findRanges_104 : decode cX10_findRanges 104 = .ok (.iload_n 1, 1) := by decide +kernel
theorem dX10_findRanges_105 : decode cX10_findRanges 105 = .ok (.ifCond .eq 7, 3) := by decide +kernel
theorem dX10_findRanges_108 : decode cX10_findRanges 108 = .ok (.iconst 1, 1) := by decide +kernel
theorem dX10_findRanges_109 : decode cX10_findRanges 109 = .ok (.goto 4, 3) := by decide +kernel
theorem dX10_findRanges_112 : decode cX10_findRanges 112 = .ok (.iconst 0, 1) := by decide +kernel
theorem dX10_findRanges_113 : decode cX10_findRanges 113 = .ok (.istore_n 1, 1) := by decide +kernel
theorem dX10_findRanges_114 : decode cX10_findRanges 114 = .ok (.iinc 3 1, 3) := by decide +kernel
theorem dX10_findRanges_117 : decode cX10_findRanges 117 = .ok (.goto (-45), 3) := by decide +kernel
theorem dX10_findRanges_120 : decode cX10_findRanges 120 = .ok (.iinc 2 1, 3) := by decide +kernel
theorem dX10_findRanges_123 : decode cX10_findRanges 123 = .ok (.goto (-62), 3) := by decide +kernel
theorem dX10_findRanges_126 : decode cX10_findRanges 126 = .ok (.goto (-73), 3) := by decide +kernel
theorem dX10_findRanges_129 : decode cX10_findRanges 129 = .ok (.return_, 1) := by decide +kernel
theorem dX10_isOpen_0 : decode cX10_isOpen 0 = .ok (.aload_n 0, 1) := by decide +kernel
theorem dX10_isOpen_1 : decode cX10_isOpen 1 = .ok (.iload_n 1, 1) := by decide +kernel
theorem dX10_isOpen_2 : decode cX10_isOpen 2 = .ok (.invokevirtual 251, 3) := by decide +kernel
theorem dX10_isOpen_5 : decode cX10_isOpen 5 = .ok (.ifCond .ne 5, 3) := by decide +kernel
theorem dX10_isOpen_8 : decode cX10_isOpen 8 = .ok (.iconst 0, 1) := by decide +kernel
theorem dX10_isOpen_9 : decode cX10_isOpen 9 = .ok (.ireturn, 1) := by decide +kernel
theorem dX10_isOpen_10 : decode cX10_isOpen 10 = .ok (.aload_n 0, 1) := by decide +kernel
theorem dX10_isOpen_11 : decode cX10_isOpen 11 = .ok (.iload_n 1, 1) := by decide +kernel
theorem dX10_isOpen_12 : decode cX10_isOpen 12 = .ok (.invokevirtual 254, 3) := by decide +kernel
theorem dX10_isOpen_15 : decode cX10_isOpen 15 = .ok (.aload_n 0, 1) := by decide +kernel
theorem dX10_isOpen_16 : decode cX10_isOpen 16 = .ok (.iload_n 1, 1) := by decide +kernel
theorem dX10_isOpen_17 : decode cX10_isOpen 17 = .ok (.iload_n 2, 1) := by decide +kernel
theorem dX10_isOpen_18 : decode cX10_isOpen 18 = .ok (.invokevirtual 248, 3) := by decide +kernel
theorem dX10_isOpen_21 : decode cX10_isOpen 21 = .ok (.ireturn, 1) := by decide +kernel
theorem dX10_outcomeOf_0 : decode cX10_outcomeOf 0 = .ok (.iload_n 0, 1) := by decide +kernel
theorem dX10_outcomeOf_1 : decode cX10_outcomeOf 1 = .ok (.ifCond .eq 11, 3) := by decide +kernel
theorem dX10_outcomeOf_4 : decode cX10_outcomeOf 4 = .ok (.iload_n 1, 1) := by decide +kernel
theorem dX10_outcomeOf_5 : decode cX10_outcomeOf 5 = .ok (.ifCond .eq 7, 3) := by decide +kernel
theorem dX10_outcomeOf_8 : decode cX10_outcomeOf 8 = .ok (.iconst 0, 1) := by decide +kernel
theorem dX10_outcomeOf_9 : decode cX10_outcomeOf 9 = .ok (.goto 12, 3) := by decide +kernel
theorem dX10_outcomeOf_12 : decode cX10_outcomeOf 12 = .ok (.iload_n 0, 1) := by decide +kernel
theorem dX10_outcomeOf_13 : decode cX10_outcomeOf 13 = .ok (.ifCond .eq 7, 3) := by decide +kernel
theorem dX10_outcomeOf_16 : decode cX10_outcomeOf 16 = .ok (.iconst 1, 1) := by decide +kernel
theorem dX10_outcomeOf_17 : decode cX10_outcomeOf 17 = .ok (.goto 4, 3) := by decide +kernel
theorem dX10_outcomeOf_20 : decode cX10_outcomeOf 20 = .ok (.iconst 2, 1) := by decide +kernel
theorem dX10_outcomeOf_21 : decode cX10_outcomeOf 21 = .ok (.ireturn, 1) := by decide +kernel
theorem dX10_outcomeAt_0 : decode cX10_outcomeAt 0 = .ok (.aload_n 0, 1) := by decide +kernel
theorem dX10_outcomeAt_1 : decode cX10_outcomeAt 1 = .ok (.iload_n 1, 1) := by decide +kernel
theorem dX10_outcomeAt_2 : decode cX10_outcomeAt 2 = .ok (.iconst 0, 1) := by decide +kernel
theorem dX10_outcomeAt_3 : decode cX10_outcomeAt 3 = .ok (.invokevirtual 260, 3) := by decide +kernel
theorem dX10_outcomeAt_6 : decode cX10_outcomeAt 6 = .ok (.aload_n 0, 1) := by decide +kernel
theorem dX10_outcomeAt_7 : decode cX10_outcomeAt 7 = .ok (.iload_n 1, 1) := by decide +kernel
theorem dX10_outcomeAt_8 : decode cX10_outcomeAt 8 = .ok (.iconst 1, 1) := by decide +kernel
theorem dX10_outcomeAt_9 : decode cX10_outcomeAt 9 = .ok (.invokevirtual 260, 3) := by decide +kernel
theorem dX10_outcomeAt_12 : decode cX10_outcomeAt 12 = .ok (.invokestatic 263, 3) := by decide +kernel
theorem dX10_outcomeAt_15 : decode cX10_outcomeAt 15 = .ok (.ireturn, 1) := by decide +kernel
theorem dX10_outcomeAlong_0 : decode cX10_outcomeAlong 0 = .ok (.aload_n 0, 1) := by decide +kernel
theorem dX10_outcomeAlong_1 : decode cX10_outcomeAlong 1 = .ok (.iload_n 1, 1) := by decide +kernel
theorem dX10_outcomeAlong_2 : decode cX10_outcomeAlong 2 = .ok (.iload_n 2, 1) := by decide +kernel
theorem dX10_outcomeAlong_3 : decode cX10_outcomeAlong 3 = .ok (.invokevirtual 260, 3) := by decide +kernel
theorem dX10_outcomeAlong_6 : decode cX10_outcomeAlong 6 = .ok (.pop, 1) := by decide +kernel
theorem dX10_outcomeAlong_7 : decode cX10_outcomeAlong 7 = .ok (.aload_n 0, 1) := by decide +kernel
theorem dX10_outcomeAlong_8 : decode cX10_outcomeAlong 8 = .ok (.iconst 1, 1) := by decide +kernel
theorem dX10_outcomeAlong_9 : decode cX10_outcomeAlong 9 = .ok (.iload_n 1, 1) := by decide +kernel
theorem dX10_outcomeAlong_10 : decode cX10_outcomeAlong 10 = .ok (.bipush 14, 2) := by decide +kernel
theorem dX10_outcomeAlong_12 : decode cX10_outcomeAlong 12 = .ok (.iload_n 2, 1) := by decide +kernel
theorem dX10_outcomeAlong_13 : decode cX10_outcomeAlong 13 = .ok (.iadd, 1) := by decide +kernel
theorem dX10_outcomeAlong_14 : decode cX10_outcomeAlong 14 = .ok (.invokevirtual 175, 3) := by decide +kernel
theorem dX10_outcomeAlong_17 : decode cX10_outcomeAlong 17 = .ok (.istore_n 3, 1) := by decide +kernel
theorem dX10_outcomeAlong_18 : decode cX10_outcomeAlong 18 = .ok (.iconst 0, 1) := by decide +kernel
theorem dX10_outcomeAlong_19 : decode cX10_outcomeAlong 19 = .ok (.istore 4, 2) := by decide +kernel
theorem dX10_outcomeAlong_21 : decode cX10_outcomeAlong 21 = .ok (.iload 4, 2) := by decide +kernel
theorem dX10_outcomeAlong_23 : decode cX10_outcomeAlong 23 = .ok (.iconst 4, 1) := by decide +kernel
theorem dX10_outcomeAlong_24 : decode cX10_outcomeAlong 24 = .ok (.if_icmp .ge 23, 3) := by decide +kernel
theorem dX10_outcomeAlong_27 : decode cX10_outcomeAlong 27 = .ok (.aload_n 0, 1) := by decide +kernel
theorem dX10_outcomeAlong_28 : decode cX10_outcomeAlong 28 = .ok (.getfield 34, 3) := by decide +kernel
theorem dX10_outcomeAlong_31 : decode cX10_outcomeAlong 31 = .ok (.iload 4, 2) := by decide +kernel
theorem dX10_outcomeAlong_33 : decode cX10_outcomeAlong 33 = .ok (.aload_n 0, 1) := by decide +kernel
theorem dX10_outcomeAlong_34 : decode cX10_outcomeAlong 34 = .ok (.getfield 37, 3) := by decide +kernel
theorem dX10_outcomeAlong_37 : decode cX10_outcomeAlong 37 = .ok (.iload 4, 2) := by decide +kernel
theorem dX10_outcomeAlong_39 : decode cX10_outcomeAlong 39 = .ok (.laload, 1) := by decide +kernel
theorem dX10_outcomeAlong_40 : decode cX10_outcomeAlong 40 = .ok (.lastore, 1) := by decide +kernel
theorem dX10_outcomeAlong_41 : decode cX10_outcomeAlong 41 = .ok (.iinc 4 1, 3) := by decide +kernel
theorem dX10_outcomeAlong_44 : decode cX10_outcomeAlong 44 = .ok (.goto (-23), 3) := by decide +kernel
theorem dX10_outcomeAlong_47 : decode cX10_outcomeAlong 47 = .ok (.aload_n 0, 1) := by decide +kernel
theorem dX10_outcomeAlong_48 : decode cX10_outcomeAlong 48 = .ok (.iload_n 3, 1) := by decide +kernel
theorem dX10_outcomeAlong_49 : decode cX10_outcomeAlong 49 = .ok (.invokevirtual 245, 3) := by decide +kernel
theorem dX10_outcomeAlong_52 : decode cX10_outcomeAlong 52 = .ok (.aload_n 0, 1) := by decide +kernel
theorem dX10_outcomeAlong_53 : decode cX10_outcomeAlong 53 = .ok (.iload_n 3, 1) := by decide +kernel
theorem dX10_outcomeAlong_54 : decode cX10_outcomeAlong 54 = .ok (.iconst 0, 1) := by decide +kernel
theorem dX10_outcomeAlong_55 : decode cX10_outcomeAlong 55 = .ok (.invokevirtual 248, 3) := by decide +kernel
theorem dX10_outcomeAlong_58 : decode cX10_outcomeAlong 58 = .ok (.istore 4, 2) := by decide +kernel
theorem dX10_outcomeAlong_60 : decode cX10_outcomeAlong 60 = .ok (.iload 4, 2) := by decide +kernel
theorem dX10_outcomeAlong_62 : decode cX10_outcomeAlong 62 = .ok (.aload_n 0, 1) := by decide +kernel
theorem dX10_outcomeAlong_63 : decode cX10_outcomeAlong 63 = .ok (.iload_n 3, 1) := by decide +kernel
theorem dX10_outcomeAlong_64 : decode cX10_outcomeAlong 64 = .ok (.iconst 1, 1) := by decide +kernel
theorem dX10_outcomeAlong_65 : decode cX10_outcomeAlong 65 = .ok (.invokevirtual 248, 3) := by decide +kernel
theorem dX10_outcomeAlong_68 : decode cX10_outcomeAlong 68 = .ok (.invokestatic 263, 3) := by decide +kernel
theorem dX10_outcomeAlong_71 : decode cX10_outcomeAlong 71 = .ok (.ireturn, 1) := by decide +kernel
theorem dX10_told_0 : decode cX10_told 0 = .ok (.iload_n 2, 1) := by decide +kernel
theorem dX10_told_1 : decode cX10_told 1 = .ok (.ifCond .ne 10, 3) := by decide +kernel
theorem dX10_told_4 : decode cX10_told 4 = .ok (.lload_n 0, 1) := by decide +kernel
theorem dX10_told_5 : decode cX10_told 5 = .ok (.invokestatic 204, 3) := by decide +kernel
theorem dX10_told_8 : decode cX10_told 8 = .ok (.goto 33, 3) := by decide +kernel
theorem dX10_told_11 : decode cX10_told 11 = .ok (.iload_n 2, 1) := by decide +kernel
theorem dX10_told_12 : decode cX10_told 12 = .ok (.iconst 1, 1) := by decide +kernel
theorem dX10_told_13 : decode cX10_told 13 = .ok (.if_icmp .ne 10, 3) := by decide +kernel
theorem dX10_told_16 : decode cX10_told 16 = .ok (.lload_n 0, 1) := by decide +kernel
theorem dX10_told_17 : decode cX10_told 17 = .ok (.invokestatic 208, 3) := by decide +kernel
theorem dX10_told_20 : decode cX10_told 20 = .ok (.goto 21, 3) := by decide +kernel
theorem dX10_told_23 : decode cX10_told 23 = .ok (.lload_n 0, 1) := by decide +kernel
theorem dX10_told_24 : decode cX10_told 24 = .ok (.ldc2_w 215, 3) := by decide +kernel
theorem dX10_told_27 : decode cX10_told 27 = .ok (.land, 1) := by decide +kernel
theorem dX10_told_28 : decode cX10_told 28 = .ok (.lconst 0, 1) := by decide +kernel
theorem dX10_told_29 : decode cX10_told 29 = .ok (.lcmp, 1) := by decide +kernel
theorem dX10_told_30 : decode cX10_told 30 = .ok (.ifCond .eq 7, 3) := by decide +kernel
theorem dX10_told_33 : decode cX10_told 33 = .ok (.iconst 1, 1) := by decide +kernel
theorem dX10_told_34 : decode cX10_told 34 = .ok (.goto 4, 3) := by decide +kernel
theorem dX10_told_37 : decode cX10_told 37 = .ok (.iconst 0, 1) := by decide +kernel
theorem dX10_told_38 : decode cX10_told 38 = .ok (.invokestatic 145, 3) := by decide +kernel
theorem dX10_told_41 : decode cX10_told 41 = .ok (.ireturn, 1) := by decide +kernel
theorem dX10_range_0 : decode cX10_range 0 = .ok (.aload_n 0, 1) := by decide +kernel
theorem dX10_range_1 : decode cX10_range 1 = .ok (.iconst 1, 1) := by decide +kernel
theorem dX10_range_2 : decode cX10_range 2 = .ok (.iload_n 1, 1) := by decide +kernel
theorem dX10_range_3 : decode cX10_range 3 = .ok (.invokevirtual 178, 3) := by decide +kernel
theorem dX10_range_6 : decode cX10_range 6 = .ok (.ifCond .eq 22, 3) := by decide +kernel
theorem dX10_range_9 : decode cX10_range 9 = .ok (.iload_n 2, 1) := by decide +kernel
theorem dX10_range_10 : decode cX10_range 10 = .ok (.invokestatic 267, 3) := by decide +kernel
theorem dX10_range_13 : decode cX10_range 13 = .ok (.ifCond .eq 15, 3) := by decide +kernel
theorem dX10_range_16 : decode cX10_range 16 = .ok (.iload_n 3, 1) := by decide +kernel
theorem dX10_range_17 : decode cX10_range 17 = .ok (.i2l, 1) := by decide +kernel
theorem dX10_range_18 : decode cX10_range 18 = .ok (.lconst 0, 1) := by decide +kernel
theorem dX10_range_19 : decode cX10_range 19 = .ok (.ldc2_w 202, 3) := by decide +kernel
theorem dX10_range_22 : decode cX10_range 22 = .ok (.invokestatic 80, 3) := by decide +kernel
theorem dX10_range_25 : decode cX10_range 25 = .ok (.ifCond .ne 5, 3) := by decide +kernel
theorem dX10_range_28 : decode cX10_range 28 = .ok (.iconst (-1), 1) := by decide +kernel
theorem dX10_range_29 : decode cX10_range 29 = .ok (.ireturn, 1) := by decide +kernel
theorem dX10_range_30 : decode cX10_range 30 = .ok (.aload_n 0, 1) := by decide +kernel
theorem dX10_range_31 : decode cX10_range 31 = .ok (.invokevirtual 270, 3) := by decide +kernel
theorem dX10_range_34 : decode cX10_range 34 = .ok (.aload_n 0, 1) := by decide +kernel
theorem dX10_range_35 : decode cX10_range 35 = .ok (.iload_n 1, 1) := by decide +kernel
theorem dX10_range_36 : decode cX10_range 36 = .ok (.invokevirtual 251, 3) := by decide +kernel
theorem dX10_range_39 : decode cX10_range 39 = .ok (.ifCond .eq 20, 3) := by decide +kernel
theorem dX10_range_42 : decode cX10_range 42 = .ok (.aload_n 0, 1) := by decide +kernel
theorem dX10_range_43 : decode cX10_range 43 = .ok (.getfield 30, 3) := by decide +kernel
theorem dX10_range_46 : decode cX10_range 46 = .ok (.iconst 4, 1) := by decide +kernel
theorem dX10_range_47 : decode cX10_range 47 = .ok (.iload_n 1, 1) := by decide +kernel
theorem dX10_range_48 : decode cX10_range 48 = .ok (.imul, 1) := by decide +kernel
theorem dX10_range_49 : decode cX10_range 49 = .ok (.iload_n 2, 1) := by decide +kernel
theorem dX10_range_50 : decode cX10_range 50 = .ok (.iadd, 1) := by decide +kernel
theorem dX10_range_51 : decode cX10_range 51 = .ok (.laload, 1) := by decide +kernel
theorem dX10_range_52 : decode cX10_range 52 = .ok (.iload_n 3, 1) := by decide +kernel
theorem dX10_range_53 : decode cX10_range 53 = .ok (.invokestatic 273, 3) := by decide +kernel
theorem dX10_range_56 : decode cX10_range 56 = .ok (.goto 5, 3) := by decide +kernel
theorem dX10_range_59 : decode cX10_range 59 = .ok (.bipush (-2), 2) := by decide +kernel
theorem dX10_range_61 : decode cX10_range 61 = .ok (.ireturn, 1) := by decide +kernel
theorem dX10_along_0 : decode cX10_along 0 = .ok (.aload_n 0, 1) := by decide +kernel
theorem dX10_along_1 : decode cX10_along 1 = .ok (.iconst 1, 1) := by decide +kernel
theorem dX10_along_2 : decode cX10_along 2 = .ok (.iload_n 1, 1) := by decide +kernel
theorem dX10_along_3 : decode cX10_along 3 = .ok (.iload_n 2, 1) := by decide +kernel
theorem dX10_along_4 : decode cX10_along 4 = .ok (.invokevirtual 277, 3) := by decide +kernel
theorem dX10_along_7 : decode cX10_along 7 = .ok (.ifCond .eq 23, 3) := by decide +kernel
theorem dX10_along_10 : decode cX10_along 10 = .ok (.iload_n 3, 1) := by decide +kernel
theorem dX10_along_11 : decode cX10_along 11 = .ok (.invokestatic 267, 3) := by decide +kernel
theorem dX10_along_14 : decode cX10_along 14 = .ok (.ifCond .eq 16, 3) := by decide +kernel
theorem dX10_along_17 : decode cX10_along 17 = .ok (.iload 4, 2) := by decide +kernel
theorem dX10_along_19 : decode cX10_along 19 = .ok (.i2l, 1) := by decide +kernel
theorem dX10_along_20 : decode cX10_along 20 = .ok (.lconst 0, 1) := by decide +kernel
theorem dX10_along_21 : decode cX10_along 21 = .ok (.ldc2_w 202, 3) := by decide +kernel
theorem dX10_along_24 : decode cX10_along 24 = .ok (.invokestatic 80, 3) := by decide +kernel
theorem dX10_along_27 : decode cX10_along 27 = .ok (.ifCond .ne 5, 3) := by decide +kernel
theorem dX10_along_30 : decode cX10_along 30 = .ok (.iconst (-1), 1) := by decide +kernel
theorem dX10_along_31 : decode cX10_along 31 = .ok (.ireturn, 1) := by decide +kernel
theorem dX10_along_32 : decode cX10_along 32 = .ok (.aload_n 0, 1) := by decide +kernel
theorem dX10_along_33 : decode cX10_along 33 = .ok (.invokevirtual 270, 3) := by decide +kernel
theorem dX10_along_36 : decode cX10_along 36 = .ok (.aload_n 0, 1) := by decide +kernel
theorem dX10_along_37 : decode cX10_along 37 = .ok (.iload_n 1, 1) := by decide +kernel
theorem dX10_along_38 : decode cX10_along 38 = .ok (.iload_n 2, 1) := by decide +kernel
theorem dX10_along_39 : decode cX10_along 39 = .ok (.invokevirtual 260, 3) := by decide +kernel
theorem dX10_along_42 : decode cX10_along 42 = .ok (.ifCond .eq 17, 3) := by decide +kernel
theorem dX10_along_45 : decode cX10_along 45 = .ok (.aload_n 0, 1) := by decide +kernel
theorem dX10_along_46 : decode cX10_along 46 = .ok (.getfield 37, 3) := by decide +kernel
theorem dX10_along_49 : decode cX10_along 49 = .ok (.iload_n 3, 1) := by decide +kernel
theorem dX10_along_50 : decode cX10_along 50 = .ok (.laload, 1) := by decide +kernel
theorem dX10_along_51 : decode cX10_along 51 = .ok (.iload 4, 2) := by decide +kernel
theorem dX10_along_53 : decode cX10_along 53 = .ok (.invokestatic 273, 3) := by decide +kernel
theorem dX10_along_56 : decode cX10_along 56 = .ok (.goto 5, 3) := by decide +kernel
theorem dX10_along_59 : decode cX10_along 59 = .ok (.bipush (-2), 2) := by decide +kernel
theorem dX10_along_61 : decode cX10_along 61 = .ok (.ireturn, 1) := by decide +kernel
theorem dX10_outcome_0 : decode cX10_outcome 0 = .ok (.aload_n 0, 1) := by decide +kernel
theorem dX10_outcome_1 : decode cX10_outcome 1 = .ok (.iconst 1, 1) := by decide +kernel
theorem dX10_outcome_2 : decode cX10_outcome 2 = .ok (.iload_n 1, 1) := by decide +kernel
theorem dX10_outcome_3 : decode cX10_outcome 3 = .ok (.invokevirtual 178, 3) := by decide +kernel
theorem dX10_outcome_6 : decode cX10_outcome 6 = .ok (.ifCond .ne 5, 3) := by decide +kernel
theorem dX10_outcome_9 : decode cX10_outcome 9 = .ok (.iconst (-1), 1) := by decide +kernel
theorem dX10_outcome_10 : decode cX10_outcome 10 = .ok (.ireturn, 1) := by decide +kernel
theorem dX10_outcome_11 : decode cX10_outcome 11 = .ok (.aload_n 0, 1) := by decide +kernel
theorem dX10_outcome_12 : decode cX10_outcome 12 = .ok (.invokevirtual 270, 3) := by decide +kernel
theorem dX10_outcome_15 : decode cX10_outcome 15 = .ok (.aload_n 0, 1) := by decide +kernel
theorem dX10_outcome_16 : decode cX10_outcome 16 = .ok (.iload_n 1, 1) := by decide +kernel
theorem dX10_outcome_17 : decode cX10_outcome 17 = .ok (.invokevirtual 251, 3) := by decide +kernel
theorem dX10_outcome_20 : decode cX10_outcome 20 = .ok (.ifCond .ne 8, 3) := by decide +kernel
theorem dX10_outcome_23 : decode cX10_outcome 23 = .ok (.bipush (-2), 2) := by decide +kernel
theorem dX10_outcome_25 : decode cX10_outcome 25 = .ok (.goto 27, 3) := by decide +kernel
theorem dX10_outcome_28 : decode cX10_outcome 28 = .ok (.aload_n 0, 1) := by decide +kernel
theorem dX10_outcome_29 : decode cX10_outcome 29 = .ok (.iconst 1, 1) := by decide +kernel
theorem dX10_outcome_30 : decode cX10_outcome 30 = .ok (.iload_n 1, 1) := by decide +kernel
theorem dX10_outcome_31 : decode cX10_outcome 31 = .ok (.bipush 13, 2) := by decide +kernel
theorem dX10_outcome_33 : decode cX10_outcome 33 = .ok (.invokevirtual 175, 3) := by decide +kernel
