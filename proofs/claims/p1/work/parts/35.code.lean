/-! code tables (laid by a program) -/
theorem dX13_make_0 : decode cX13_make 0 = .ok (.bipush 31, 2) := by decide +kernel
theorem dX13_make_2 : decode cX13_make 2 = .ok (.iload_n 1, 1) := by decide +kernel
theorem dX13_make_3 : decode cX13_make 3 = .ok (.imul, 1) := by decide +kernel
theorem dX13_make_4 : decode cX13_make 4 = .ok (.iload_n 2, 1) := by decide +kernel
theorem dX13_make_5 : decode cX13_make 5 = .ok (.iadd, 1) := by decide +kernel
theorem dX13_make_6 : decode cX13_make 6 = .ok (.istore 6, 2) := by decide +kernel
theorem dX13_make_8 : decode cX13_make 8 = .ok (.iconst 0, 1) := by decide +kernel
theorem dX13_make_9 : decode cX13_make 9 = .ok (.istore 7, 2) := by decide +kernel
theorem dX13_make_11 : decode cX13_make 11 = .ok (.iload 7, 2) := by decide +kernel
theorem dX13_make_13 : decode cX13_make 13 = .ok (.iload 5, 2) := by decide +kernel
theorem dX13_make_15 : decode cX13_make 15 = .ok (.if_icmp .ge 24, 3) := by decide +kernel
theorem dX13_make_39 : decode cX13_make 39 = .ok (.iload 6, 2) := by decide +kernel
theorem dX13_make_41 : decode cX13_make 41 = .ok (.ldc 55, 2) := by decide +kernel
theorem dX13_make_43 : decode cX13_make 43 = .ok (.imul, 1) := by decide +kernel
theorem dX13_make_44 : decode cX13_make 44 = .ok (.bipush 18, 2) := by decide +kernel
theorem dX13_make_46 : decode cX13_make 46 = .ok (.iushr, 1) := by decide +kernel
theorem dX13_make_47 : decode cX13_make 47 = .ok (.sipush 16384, 3) := by decide +kernel
theorem dX13_make_50 : decode cX13_make 50 = .ok (.irem, 1) := by decide +kernel
theorem dX13_make_51 : decode cX13_make 51 = .ok (.istore 6, 2) := by decide +kernel
theorem dX13_make_53 : decode cX13_make 53 = .ok (.aload_n 0, 1) := by decide +kernel
theorem dX13_make_54 : decode cX13_make 54 = .ok (.getfield 38, 3) := by decide +kernel
theorem dX13_make_57 : decode cX13_make 57 = .ok (.iload 6, 2) := by decide +kernel
theorem dX13_make_59 : decode cX13_make 59 = .ok (.iaload, 1) := by decide +kernel
theorem dX13_make_60 : decode cX13_make 60 = .ok (.istore 7, 2) := by decide +kernel
theorem dX13_make_62 : decode cX13_make 62 = .ok (.iload 7, 2) := by decide +kernel
theorem dX13_make_64 : decode cX13_make 64 = .ok (.iconst (-1), 1) := by decide +kernel
theorem dX13_make_65 : decode cX13_make 65 = .ok (.if_icmp .eq 64, 3) := by decide +kernel
theorem dX13_make_68 : decode cX13_make 68 = .ok (.aload_n 0, 1) := by decide +kernel
theorem dX13_make_69 : decode cX13_make 69 = .ok (.getfield 10, 3) := by decide +kernel
theorem dX13_make_72 : decode cX13_make 72 = .ok (.iload 7, 2) := by decide +kernel
theorem dX13_make_74 : decode cX13_make 74 = .ok (.iaload, 1) := by decide +kernel
theorem dX13_make_75 : decode cX13_make 75 = .ok (.iload_n 1, 1) := by decide +kernel
theorem dX13_make_76 : decode cX13_make 76 = .ok (.if_icmp .ne 41, 3) := by decide +kernel
theorem dX13_make_79 : decode cX13_make 79 = .ok (.aload_n 0, 1) := by decide +kernel
theorem dX13_make_80 : decode cX13_make 80 = .ok (.getfield 16, 3) := by decide +kernel
theorem dX13_make_83 : decode cX13_make 83 = .ok (.iload 7, 2) := by decide +kernel
theorem dX13_make_85 : decode cX13_make 85 = .ok (.iaload, 1) := by decide +kernel
theorem dX13_make_86 : decode cX13_make 86 = .ok (.iload_n 2, 1) := by decide +kernel
theorem dX13_make_87 : decode cX13_make 87 = .ok (.if_icmp .ne 30, 3) := by decide +kernel
theorem dX13_make_90 : decode cX13_make 90 = .ok (.aload_n 0, 1) := by decide +kernel
theorem dX13_make_91 : decode cX13_make 91 = .ok (.getfield 22, 3) := by decide +kernel
theorem dX13_make_94 : decode cX13_make 94 = .ok (.iload 7, 2) := by decide +kernel
theorem dX13_make_96 : decode cX13_make 96 = .ok (.iaload, 1) := by decide +kernel
theorem dX13_make_97 : decode cX13_make 97 = .ok (.iload 5, 2) := by decide +kernel
theorem dX13_make_99 : decode cX13_make 99 = .ok (.if_icmp .ne 18, 3) := by decide +kernel
theorem dX13_make_102 : decode cX13_make 102 = .ok (.aload_n 0, 1) := by decide +kernel
theorem dX13_make_103 : decode cX13_make 103 = .ok (.iload 7, 2) := by decide +kernel
theorem dX13_make_105 : decode cX13_make 105 = .ok (.aload_n 3, 1) := by decide +kernel
theorem dX13_make_106 : decode cX13_make 106 = .ok (.iload 4, 2) := by decide +kernel
theorem dX13_make_108 : decode cX13_make 108 = .ok (.invokevirtual 56, 3) := by decide +kernel
theorem dX13_make_111 : decode cX13_make 111 = .ok (.ifCond .eq 6, 3) := by decide +kernel
theorem dX13_make_114 : decode cX13_make 114 = .ok (.iload 7, 2) := by decide +kernel
theorem dX13_make_116 : decode cX13_make 116 = .ok (.ireturn, 1) := by decide +kernel
theorem dX13_make_129 : decode cX13_make 129 = .ok (.aload_n 0, 1) := by decide +kernel
theorem dX13_make_130 : decode cX13_make 130 = .ok (.getfield 44, 3) := by decide +kernel
theorem dX13_make_133 : decode cX13_make 133 = .ok (.istore 7, 2) := by decide +kernel
theorem dX13_make_135 : decode cX13_make 135 = .ok (.aload_n 0, 1) := by decide +kernel
theorem dX13_make_136 : decode cX13_make 136 = .ok (.dup, 1) := by decide +kernel
theorem dX13_make_137 : decode cX13_make 137 = .ok (.getfield 44, 3) := by decide +kernel
theorem dX13_make_140 : decode cX13_make 140 = .ok (.iconst 1, 1) := by decide +kernel
theorem dX13_make_141 : decode cX13_make 141 = .ok (.iadd, 1) := by decide +kernel
theorem dX13_make_142 : decode cX13_make 142 = .ok (.putfield 44, 3) := by decide +kernel
theorem dX13_make_145 : decode cX13_make 145 = .ok (.aload_n 0, 1) := by decide +kernel
theorem dX13_make_146 : decode cX13_make 146 = .ok (.getfield 10, 3) := by decide +kernel
theorem dX13_make_149 : decode cX13_make 149 = .ok (.iload 7, 2) := by decide +kernel
theorem dX13_make_151 : decode cX13_make 151 = .ok (.iload_n 1, 1) := by decide +kernel
theorem dX13_make_152 : decode cX13_make 152 = .ok (.iastore, 1) := by decide +kernel
theorem dX13_make_153 : decode cX13_make 153 = .ok (.aload_n 0, 1) := by decide +kernel
theorem dX13_make_154 : decode cX13_make 154 = .ok (.getfield 16, 3) := by decide +kernel
theorem dX13_make_157 : decode cX13_make 157 = .ok (.iload 7, 2) := by decide +kernel
theorem dX13_make_159 : decode cX13_make 159 = .ok (.iload_n 2, 1) := by decide +kernel
theorem dX13_make_160 : decode cX13_make 160 = .ok (.iastore, 1) := by decide +kernel
theorem dX13_make_161 : decode cX13_make 161 = .ok (.aload_n 0, 1) := by decide +kernel
theorem dX13_make_162 : decode cX13_make 162 = .ok (.getfield 19, 3) := by decide +kernel
theorem dX13_make_165 : decode cX13_make 165 = .ok (.iload 7, 2) := by decide +kernel
theorem dX13_make_167 : decode cX13_make 167 = .ok (.aload_n 0, 1) := by decide +kernel
theorem dX13_make_168 : decode cX13_make 168 = .ok (.getfield 48, 3) := by decide +kernel
theorem dX13_make_171 : decode cX13_make 171 = .ok (.iastore, 1) := by decide +kernel
theorem dX13_make_172 : decode cX13_make 172 = .ok (.aload_n 0, 1) := by decide +kernel
theorem dX13_make_173 : decode cX13_make 173 = .ok (.getfield 22, 3) := by decide +kernel
theorem dX13_make_176 : decode cX13_make 176 = .ok (.iload 7, 2) := by decide +kernel
theorem dX13_make_178 : decode cX13_make 178 = .ok (.iload 5, 2) := by decide +kernel
theorem dX13_make_180 : decode cX13_make 180 = .ok (.iastore, 1) := by decide +kernel
theorem dX13_make_181 : decode cX13_make 181 = .ok (.aload_n 0, 1) := by decide +kernel
theorem dX13_make_182 : decode cX13_make 182 = .ok (.getfield 25, 3) := by decide +kernel
theorem dX13_make_185 : decode cX13_make 185 = .ok (.iload 7, 2) := by decide +kernel
theorem dX13_make_187 : decode cX13_make 187 = .ok (.iload_n 1, 1) := by decide +kernel
theorem dX13_make_188 : decode cX13_make 188 = .ok (.iconst 3, 1) := by decide +kernel
theorem dX13_make_189 : decode cX13_make 189 = .ok (.if_icmp .ne 7, 3) := by decide +kernel
theorem dX13_make_196 : decode cX13_make 196 = .ok (.iconst 1, 1) := by decide +kernel
theorem dX13_make_197 : decode cX13_make 197 = .ok (.iastore, 1) := by decide +kernel
theorem dX13_make_198 : decode cX13_make 198 = .ok (.aload_n 0, 1) := by decide +kernel
theorem dX13_make_199 : decode cX13_make 199 = .ok (.getfield 28, 3) := by decide +kernel
theorem dX13_make_202 : decode cX13_make 202 = .ok (.iload 7, 2) := by decide +kernel
theorem dX13_make_204 : decode cX13_make 204 = .ok (.iload_n 1, 1) := by decide +kernel
theorem dX13_make_205 : decode cX13_make 205 = .ok (.ifCond .ne 9, 3) := by decide +kernel
theorem dX13_make_208 : decode cX13_make 208 = .ok (.iconst 1, 1) := by decide +kernel
theorem dX13_make_209 : decode cX13_make 209 = .ok (.iload_n 2, 1) := by decide +kernel
theorem dX13_make_210 : decode cX13_make 210 = .ok (.ishl, 1) := by decide +kernel
theorem dX13_make_211 : decode cX13_make 211 = .ok (.goto 14, 3) := by decide +kernel
theorem dX13_make_214 : decode cX13_make 214 = .ok (.iload_n 1, 1) := by decide +kernel
theorem dX13_make_215 : decode cX13_make 215 = .ok (.iconst 1, 1) := by decide +kernel
theorem dX13_make_216 : decode cX13_make 216 = .ok (.if_icmp .ne 8, 3) := by decide +kernel
theorem dX13_make_219 : decode cX13_make 219 = .ok (.bipush 64, 2) := by decide +kernel
theorem dX13_make_221 : decode cX13_make 221 = .ok (.goto 4, 3) := by decide +kernel
theorem dX13_make_224 : decode cX13_make 224 = .ok (.iconst 0, 1) := by decide +kernel
theorem dX13_make_225 : decode cX13_make 225 = .ok (.iastore, 1) := by decide +kernel
theorem dX13_make_226 : decode cX13_make 226 = .ok (.iconst 0, 1) := by decide +kernel
theorem dX13_make_227 : decode cX13_make 227 = .ok (.istore 8, 2) := by decide +kernel
theorem dX13_make_229 : decode cX13_make 229 = .ok (.iload 8, 2) := by decide +kernel
theorem dX13_make_231 : decode cX13_make 231 = .ok (.iload 5, 2) := by decide +kernel
theorem dX13_make_233 : decode cX13_make 233 = .ok (.if_icmp .ge 79, 3) := by decide +kernel
theorem dX13_make_312 : decode cX13_make 312 = .ok (.aload_n 0, 1) := by decide +kernel
theorem dX13_make_313 : decode cX13_make 313 = .ok (.getfield 31, 3) := by decide +kernel
theorem dX13_make_316 : decode cX13_make 316 = .ok (.iload 7, 2) := by decide +kernel
theorem dX13_make_318 : decode cX13_make 318 = .ok (.aload_n 0, 1) := by decide +kernel
theorem dX13_make_319 : decode cX13_make 319 = .ok (.getfield 38, 3) := by decide +kernel
theorem dX13_make_322 : decode cX13_make 322 = .ok (.iload 6, 2) := by decide +kernel
theorem dX13_make_324 : decode cX13_make 324 = .ok (.iaload, 1) := by decide +kernel
theorem dX13_make_325 : decode cX13_make 325 = .ok (.iastore, 1) := by decide +kernel
theorem dX13_make_326 : decode cX13_make 326 = .ok (.aload_n 0, 1) := by decide +kernel
theorem dX13_make_327 : decode cX13_make 327 = .ok (.getfield 38, 3) := by decide +kernel
theorem dX13_make_330 : decode cX13_make 330 = .ok (.iload 6, 2) := by decide +kernel
theorem dX13_make_332 : decode cX13_make 332 = .ok (.iload 7, 2) := by decide +kernel
theorem dX13_make_334 : decode cX13_make 334 = .ok (.iastore, 1) := by decide +kernel
theorem dX13_make_335 : decode cX13_make 335 = .ok (.iload 7, 2) := by decide +kernel
theorem dX13_make_337 : decode cX13_make 337 = .ok (.ireturn, 1) := by decide +kernel
/-- InferResolveModel$Store.make(II[III)I -/
noncomputable def qc_96 : pr_Co := [(0, (.inl (po_push 31 2))), (2, (.inl (po_iload 1 3))), (3, (.inl (po_i2 (fun x y => x * y) 4))), (4, (.inl (po_iload 2 5))), (5, (.inl (po_i2 (fun x y => x + y) 6))), (6, (.inl (po_istore 6 8))), (8, (.inl (po_push 0 9))), (9, (.inl (po_istore 7 11))), (11, (.inl (po_iload 7 13))), (13, (.inl (po_iload 5 15))), (15, (.inl (po_if2 (fun x y => decide (y ≤ x)) 39 18))), (39, (.inl (po_iload 6 41))), (41, (.inl (po_push (-1640531527) 43))), (43, (.inl (po_i2 (fun x y => x * y) 44))), (44, (.inl (po_push 18 46))), (46, (.inl (po_i2 (fun x y => (x.toUInt32 >>> (y.toUInt32 &&& Int32.toUInt32 31)).toInt32) 47))), (47, (.inl (po_push 16384 50))), (50, (.inl (po_d2 (fun x y => x - x / y * y) 51))), (51, (.inl (po_istore 6 53))), (53, (.inl (po_aload 0 54))), (54, (.inl (po_get 13 10 57))), (57, (.inl (po_iload 6 59))), (59, (.inl (po_iald 60))), (60, (.inl (po_istore 7 62))), (62, (.inl (po_iload 7 64))), (64, (.inl (po_push (-1) 65))), (65, (.inl (po_if2 (fun x y => decide (x = y)) 129 68))), (68, (.inl (po_aload 0 69))), (69, (.inl (po_get 13 2 72))), (72, (.inl (po_iload 7 74))), (74, (.inl (po_iald 75))), (75, (.inl (po_iload 1 76))), (76, (.inl (po_if2 (fun x y => !decide (x = y)) 117 79))), (79, (.inl (po_aload 0 80))), (80, (.inl (po_get 13 3 83))), (83, (.inl (po_iload 7 85))), (85, (.inl (po_iald 86))), (86, (.inl (po_iload 2 87))), (87, (.inl (po_if2 (fun x y => !decide (x = y)) 117 90))), (90, (.inl (po_aload 0 91))), (91, (.inl (po_get 13 5 94))), (94, (.inl (po_iload 7 96))), (96, (.inl (po_iald 97))), (97, (.inl (po_iload 5 99))), (99, (.inl (po_if2 (fun x y => !decide (x = y)) 117 102))), (102, (.inl (po_aload 0 103))), (103, (.inl (po_iload 7 105))), (105, (.inl (po_aload 3 106))), (106, (.inl (po_iload 4 108))), (108, (.inl (po_cv 97 3 13 6 111))), (111, (.inl (po_if1 (fun x => decide (x = 0)) 117 114))), (114, (.inl (po_iload 7 116))), (116, (.inr (re_i))), (129, (.inl (po_aload 0 130))), (130, (.inl (po_get 13 0 133))), (133, (.inl (po_istore 7 135))), (135, (.inl (po_aload 0 136))), (136, (.inl (po_dup 137))), (137, (.inl (po_get 13 0 140))), (140, (.inl (po_push 1 141))), (141, (.inl (po_i2 (fun x y => x + y) 142))), (142, (.inl (po_puti 13 0 145))), (145, (.inl (po_aload 0 146))), (146, (.inl (po_get 13 2 149))), (149, (.inl (po_iload 7 151))), (151, (.inl (po_iload 1 152))), (152, (.inl (po_iast 153))), (153, (.inl (po_aload 0 154))), (154, (.inl (po_get 13 3 157))), (157, (.inl (po_iload 7 159))), (159, (.inl (po_iload 2 160))), (160, (.inl (po_iast 161))), (161, (.inl (po_aload 0 162))), (162, (.inl (po_get 13 4 165))), (165, (.inl (po_iload 7 167))), (167, (.inl (po_aload 0 168))), (168, (.inl (po_get 13 1 171))), (171, (.inl (po_iast 172))), (172, (.inl (po_aload 0 173))), (173, (.inl (po_get 13 5 176))), (176, (.inl (po_iload 7 178))), (178, (.inl (po_iload 5 180))), (180, (.inl (po_iast 181))), (181, (.inl (po_aload 0 182))), (182, (.inl (po_get 13 6 185))), (185, (.inl (po_iload 7 187))), (187, (.inl (po_iload 1 188))), (188, (.inl (po_push 3 189))), (189, (.inl (po_if2 (fun x y => !decide (x = y)) 196 192))), (196, (.inl (po_push 1 197))), (197, (.inl (po_iast 198))), (198, (.inl (po_aload 0 199))), (199, (.inl (po_get 13 7 202))), (202, (.inl (po_iload 7 204))), (204, (.inl (po_iload 1 205))), (205, (.inl (po_if1 (fun x => !decide (x = 0)) 214 208))), (208, (.inl (po_push 1 209))), (209, (.inl (po_iload 2 210))), (210, (.inl (po_i2 (fun x y => x <<< (y &&& 31)) 211))), (211, (.inl (po_goto 225))), (214, (.inl (po_iload 1 215))), (215, (.inl (po_push 1 216))), (216, (.inl (po_if2 (fun x y => !decide (x = y)) 224 219))), (219, (.inl (po_push 64 221))), (221, (.inl (po_goto 225))), (224, (.inl (po_push 0 225))), (225, (.inl (po_iast 226))), (226, (.inl (po_push 0 227))), (227, (.inl (po_istore 8 229))), (229, (.inl (po_iload 8 231))), (231, (.inl (po_iload 5 233))), (233, (.inl (po_if2 (fun x y => decide (y ≤ x)) 312 236))), (312, (.inl (po_aload 0 313))), (313, (.inl (po_get 13 8 316))), (316, (.inl (po_iload 7 318))), (318, (.inl (po_aload 0 319))), (319, (.inl (po_get 13 10 322))), (322, (.inl (po_iload 6 324))), (324, (.inl (po_iald 325))), (325, (.inl (po_iast 326))), (326, (.inl (po_aload 0 327))), (327, (.inl (po_get 13 10 330))), (330, (.inl (po_iload 6 332))), (332, (.inl (po_iload 7 334))), (334, (.inl (po_iast 335))), (335, (.inl (po_iload 7 337))), (337, (.inr (re_i)))]
set_option maxRecDepth 100000 in
set_option maxHeartbeats 4000000 in
theorem qs_96 : pr_aS pr_ms m_96 [(0, (.inl (po_push 31 2))), (2, (.inl (po_iload 1 3))), (3, (.inl (po_i2 (fun x y => x * y) 4))), (4, (.inl (po_iload 2 5))), (5, (.inl (po_i2 (fun x y => x + y) 6))), (6, (.inl (po_istore 6 8))), (8, (.inl (po_push 0 9))), (9, (.inl (po_istore 7 11))), (11, (.inl (po_iload 7 13))), (13, (.inl (po_iload 5 15))), (15, (.inl (po_if2 (fun x y => decide (y ≤ x)) 39 18))), (39, (.inl (po_iload 6 41))), (41, (.inl (po_push (-1640531527) 43))), (43, (.inl (po_i2 (fun x y => x * y) 44))), (44, (.inl (po_push 18 46))), (46, (.inl (po_i2 (fun x y => (x.toUInt32 >>> (y.toUInt32 &&& Int32.toUInt32 31)).toInt32) 47))), (47, (.inl (po_push 16384 50))), (50, (.inl (po_d2 (fun x y => x - x / y * y) 51))), (51, (.inl (po_istore 6 53))), (53, (.inl (po_aload 0 54))), (54, (.inl (po_get 13 10 57))), (57, (.inl (po_iload 6 59))), (59, (.inl (po_iald 60))), (60, (.inl (po_istore 7 62))), (62, (.inl (po_iload 7 64))), (64, (.inl (po_push (-1) 65))), (65, (.inl (po_if2 (fun x y => decide (x = y)) 129 68))), (68, (.inl (po_aload 0 69))), (69, (.inl (po_get 13 2 72))), (72, (.inl (po_iload 7 74))), (74, (.inl (po_iald 75))), (75, (.inl (po_iload 1 76))), (76, (.inl (po_if2 (fun x y => !decide (x = y)) 117 79))), (79, (.inl (po_aload 0 80))), (80, (.inl (po_get 13 3 83))), (83, (.inl (po_iload 7 85))), (85, (.inl (po_iald 86))), (86, (.inl (po_iload 2 87))), (87, (.inl (po_if2 (fun x y => !decide (x = y)) 117 90))), (90, (.inl (po_aload 0 91))), (91, (.inl (po_get 13 5 94))), (94, (.inl (po_iload 7 96))), (96, (.inl (po_iald 97))), (97, (.inl (po_iload 5 99))), (99, (.inl (po_if2 (fun x y => !decide (x = y)) 117 102))), (102, (.inl (po_aload 0 103))), (103, (.inl (po_iload 7 105))), (105, (.inl (po_aload 3 106))), (106, (.inl (po_iload 4 108))), (108, (.inl (po_cv 97 3 13 6 111))), (111, (.inl (po_if1 (fun x => decide (x = 0)) 117 114))), (114, (.inl (po_iload 7 116))), (116, (.inr (re_i))), (129, (.inl (po_aload 0 130))), (130, (.inl (po_get 13 0 133))), (133, (.inl (po_istore 7 135))), (135, (.inl (po_aload 0 136))), (136, (.inl (po_dup 137))), (137, (.inl (po_get 13 0 140))), (140, (.inl (po_push 1 141))), (141, (.inl (po_i2 (fun x y => x + y) 142))), (142, (.inl (po_puti 13 0 145))), (145, (.inl (po_aload 0 146))), (146, (.inl (po_get 13 2 149))), (149, (.inl (po_iload 7 151))), (151, (.inl (po_iload 1 152))), (152, (.inl (po_iast 153))), (153, (.inl (po_aload 0 154))), (154, (.inl (po_get 13 3 157))), (157, (.inl (po_iload 7 159))), (159, (.inl (po_iload 2 160))), (160, (.inl (po_iast 161))), (161, (.inl (po_aload 0 162))), (162, (.inl (po_get 13 4 165))), (165, (.inl (po_iload 7 167))), (167, (.inl (po_aload 0 168))), (168, (.inl (po_get 13 1 171))), (171, (.inl (po_iast 172))), (172, (.inl (po_aload 0 173))), (173, (.inl (po_get 13 5 176))), (176, (.inl (po_iload 7 178))), (178, (.inl (po_iload 5 180))), (180, (.inl (po_iast 181))), (181, (.inl (po_aload 0 182))), (182, (.inl (po_get 13 6 185))), (185, (.inl (po_iload 7 187))), (187, (.inl (po_iload 1 188))), (188, (.inl (po_push 3 189))), (189, (.inl (po_if2 (fun x y => !decide (x = y)) 196 192))), (196, (.inl (po_push 1 197))), (197, (.inl (po_iast 198))), (198, (.inl (po_aload 0 199))), (199, (.inl (po_get 13 7 202))), (202, (.inl (po_iload 7 204))), (204, (.inl (po_iload 1 205))), (205, (.inl (po_if1 (fun x => !decide (x = 0)) 214 208))), (208, (.inl (po_push 1 209))), (209, (.inl (po_iload 2 210))), (210, (.inl (po_i2 (fun x y => x <<< (y &&& 31)) 211))), (211, (.inl (po_goto 225))), (214, (.inl (po_iload 1 215))), (215, (.inl (po_push 1 216))), (216, (.inl (po_if2 (fun x y => !decide (x = y)) 224 219))), (219, (.inl (po_push 64 221))), (221, (.inl (po_goto 225))), (224, (.inl (po_push 0 225))), (225, (.inl (po_iast 226))), (226, (.inl (po_push 0 227))), (227, (.inl (po_istore 8 229))), (229, (.inl (po_iload 8 231))), (231, (.inl (po_iload 5 233))), (233, (.inl (po_if2 (fun x y => decide (y ≤ x)) 312 236))), (312, (.inl (po_aload 0 313))), (313, (.inl (po_get 13 8 316))), (316, (.inl (po_iload 7 318))), (318, (.inl (po_aload 0 319))), (319, (.inl (po_get 13 10 322))), (322, (.inl (po_iload 6 324))), (324, (.inl (po_iald 325))), (325, (.inl (po_iast 326))), (326, (.inl (po_aload 0 327))), (327, (.inl (po_get 13 10 330))), (330, (.inl (po_iload 6 332))), (332, (.inl (po_iload 7 334))), (334, (.inl (po_iast 335))), (335, (.inl (po_iload 7 337))), (337, (.inr (re_i)))] := pr_aS_c (pr_eI (os_bipush dX13_make_0 (by decide +kernel))) (pr_aS_c (pr_eI (os_iload_n (q := 1) dX13_make_2)) (pr_aS_c (pr_eI (os_imul dX13_make_3)) (pr_aS_c (pr_eI (os_iload_n (q := 2) dX13_make_4)) (pr_aS_c (pr_eI (os_iadd dX13_make_5)) (pr_aS_c (pr_eI (os_istore dX13_make_6 (by decide))) (pr_aS_c (pr_eI (os_iconst dX13_make_8 (by decide +kernel))) (pr_aS_c (pr_eI (os_istore dX13_make_9 (by decide))) (pr_aS_c (pr_eI (os_iload dX13_make_11)) (pr_aS_c (pr_eI (os_iload dX13_make_13)) (pr_aS_c (pr_eI (os_icmp_ge dX13_make_15 (by decide))) (pr_aS_c (pr_eI (os_iload dX13_make_39)) (pr_aS_c (pr_eI (os_ldc dX13_make_41 wd_457)) (pr_aS_c (pr_eI (os_imul dX13_make_43)) (pr_aS_c (pr_eI (os_bipush dX13_make_44 (by decide +kernel))) (pr_aS_c (pr_eI (os_iushr dX13_make_46)) (pr_aS_c (pr_eI (os_sipush dX13_make_47 (by decide +kernel))) (pr_aS_c (pr_eI (os_irem dX13_make_50)) (pr_aS_c (pr_eI (os_istore dX13_make_51 (by decide))) (pr_aS_c (pr_eI (os_aload_n (q := 0) dX13_make_53)) (pr_aS_c (pr_eI (os_get (kf := 10) dX13_make_54 cf_13 (by decide) wd_452)) (pr_aS_c (pr_eI (os_iload dX13_make_57)) (pr_aS_c (pr_eI (os_iald dX13_make_59)) (pr_aS_c (pr_eI (os_istore dX13_make_60 (by decide))) (pr_aS_c (pr_eI (os_iload dX13_make_62)) (pr_aS_c (pr_eI (os_iconst dX13_make_64 (by decide +kernel))) (pr_aS_c (pr_eI (os_icmp_eq dX13_make_65 (by decide))) (pr_aS_c (pr_eI (os_aload_n (q := 0) dX13_make_68)) (pr_aS_c (pr_eI (os_get (kf := 2) dX13_make_69 cf_13 (by decide) wd_443)) (pr_aS_c (pr_eI (os_iload dX13_make_72)) (pr_aS_c (pr_eI (os_iald dX13_make_74)) (pr_aS_c (pr_eI (os_iload_n (q := 1) dX13_make_75)) (pr_aS_c (pr_eI (os_icmp_ne dX13_make_76 (by decide))) (pr_aS_c (pr_eI (os_aload_n (q := 0) dX13_make_79)) (pr_aS_c (pr_eI (os_get (kf := 3) dX13_make_80 cf_13 (by decide) wd_444)) (pr_aS_c (pr_eI (os_iload dX13_make_83)) (pr_aS_c (pr_eI (os_iald dX13_make_85)) (pr_aS_c (pr_eI (os_iload_n (q := 2) dX13_make_86)) (pr_aS_c (pr_eI (os_icmp_ne dX13_make_87 (by decide))) (pr_aS_c (pr_eI (os_aload_n (q := 0) dX13_make_90)) (pr_aS_c (pr_eI (os_get (kf := 5) dX13_make_91 cf_13 (by decide) wd_446)) (pr_aS_c (pr_eI (os_iload dX13_make_94)) (pr_aS_c (pr_eI (os_iald dX13_make_96)) (pr_aS_c (pr_eI (os_iload dX13_make_97)) (pr_aS_c (pr_eI (os_icmp_ne dX13_make_99 (by decide))) (pr_aS_c (pr_eI (os_aload_n (q := 0) dX13_make_102)) (pr_aS_c (pr_eI (os_iload dX13_make_103)) (pr_aS_c (pr_eI (os_aload_n (q := 3) dX13_make_105)) (pr_aS_c (pr_eI (os_iload dX13_make_106)) (pr_aS_c (pr_eI (os_cv dX13_make_108 (k := 97) rfl rfl cal_97 wd_458 wd_460 wd_459 rfl)) (pr_aS_c (pr_eI (os_if_eq dX13_make_111 (by decide))) (pr_aS_c (pr_eI (os_iload dX13_make_114)) (pr_aS_c (pr_eR (rs_i dX13_make_116 rfl)) (pr_aS_c (pr_eI (os_aload_n (q := 0) dX13_make_129)) (pr_aS_c (pr_eI (os_get (kf := 0) dX13_make_130 cf_13 (by decide) wd_454)) (pr_aS_c (pr_eI (os_istore dX13_make_133 (by decide))) (pr_aS_c (pr_eI (os_aload_n (q := 0) dX13_make_135)) (pr_aS_c (pr_eI (os_dup dX13_make_136)) (pr_aS_c (pr_eI (os_get (kf := 0) dX13_make_137 cf_13 (by decide) wd_454)) (pr_aS_c (pr_eI (os_iconst dX13_make_140 (by decide +kernel))) (pr_aS_c (pr_eI (os_iadd dX13_make_141)) (pr_aS_c (pr_eI (os_puti (kf := 0) dX13_make_142 cf_13 (by decide) wd_454 rfl rfl)) (pr_aS_c (pr_eI (os_aload_n (q := 0) dX13_make_145)) (pr_aS_c (pr_eI (os_get (kf := 2) dX13_make_146 cf_13 (by decide) wd_443)) (pr_aS_c (pr_eI (os_iload dX13_make_149)) (pr_aS_c (pr_eI (os_iload_n (q := 1) dX13_make_151)) (pr_aS_c (pr_eI (os_iast dX13_make_152)) (pr_aS_c (pr_eI (os_aload_n (q := 0) dX13_make_153)) (pr_aS_c (pr_eI (os_get (kf := 3) dX13_make_154 cf_13 (by decide) wd_444)) (pr_aS_c (pr_eI (os_iload dX13_make_157)) (pr_aS_c (pr_eI (os_iload_n (q := 2) dX13_make_159)) (pr_aS_c (pr_eI (os_iast dX13_make_160)) (pr_aS_c (pr_eI (os_aload_n (q := 0) dX13_make_161)) (pr_aS_c (pr_eI (os_get (kf := 4) dX13_make_162 cf_13 (by decide) wd_445)) (pr_aS_c (pr_eI (os_iload dX13_make_165)) (pr_aS_c (pr_eI (os_aload_n (q := 0) dX13_make_167)) (pr_aS_c (pr_eI (os_get (kf := 1) dX13_make_168 cf_13 (by decide) wd_455)) (pr_aS_c (pr_eI (os_iast dX13_make_171)) (pr_aS_c (pr_eI (os_aload_n (q := 0) dX13_make_172)) (pr_aS_c (pr_eI (os_get (kf := 5) dX13_make_173 cf_13 (by decide) wd_446)) (pr_aS_c (pr_eI (os_iload dX13_make_176)) (pr_aS_c (pr_eI (os_iload dX13_make_178)) (pr_aS_c (pr_eI (os_iast dX13_make_180)) (pr_aS_c (pr_eI (os_aload_n (q := 0) dX13_make_181)) (pr_aS_c (pr_eI (os_get (kf := 6) dX13_make_182 cf_13 (by decide) wd_447)) (pr_aS_c (pr_eI (os_iload dX13_make_185)) (pr_aS_c (pr_eI (os_iload_n (q := 1) dX13_make_187)) (pr_aS_c (pr_eI (os_iconst dX13_make_188 (by decide +kernel))) (pr_aS_c (pr_eI (os_icmp_ne dX13_make_189 (by decide))) (pr_aS_c (pr_eI (os_iconst dX13_make_196 (by decide +kernel))) (pr_aS_c (pr_eI (os_iast dX13_make_197)) (pr_aS_c (pr_eI (os_aload_n (q := 0) dX13_make_198)) (pr_aS_c (pr_eI (os_get (kf := 7) dX13_make_199 cf_13 (by decide) wd_448)) (pr_aS_c (pr_eI (os_iload dX13_make_202)) (pr_aS_c (pr_eI (os_iload_n (q := 1) dX13_make_204)) (pr_aS_c (pr_eI (os_if_ne dX13_make_205 (by decide))) (pr_aS_c (pr_eI (os_iconst dX13_make_208 (by decide +kernel))) (pr_aS_c (pr_eI (os_iload_n (q := 2) dX13_make_209)) (pr_aS_c (pr_eI (os_ishl dX13_make_210)) (pr_aS_c (pr_eI (os_goto dX13_make_211 (by decide))) (pr_aS_c (pr_eI (os_iload_n (q := 1) dX13_make_214)) (pr_aS_c (pr_eI (os_iconst dX13_make_215 (by decide +kernel))) (pr_aS_c (pr_eI (os_icmp_ne dX13_make_216 (by decide))) (pr_aS_c (pr_eI (os_bipush dX13_make_219 (by decide +kernel))) (pr_aS_c (pr_eI (os_goto dX13_make_221 (by decide))) (pr_aS_c (pr_eI (os_iconst dX13_make_224 (by decide +kernel))) (pr_aS_c (pr_eI (os_iast dX13_make_225)) (pr_aS_c (pr_eI (os_iconst dX13_make_226 (by decide +kernel))) (pr_aS_c (pr_eI (os_istore dX13_make_227 (by decide))) (pr_aS_c (pr_eI (os_iload dX13_make_229)) (pr_aS_c (pr_eI (os_iload dX13_make_231)) (pr_aS_c (pr_eI (os_icmp_ge dX13_make_233 (by decide))) (pr_aS_c (pr_eI (os_aload_n (q := 0) dX13_make_312)) (pr_aS_c (pr_eI (os_get (kf := 8) dX13_make_313 cf_13 (by decide) wd_449)) (pr_aS_c (pr_eI (os_iload dX13_make_316)) (pr_aS_c (pr_eI (os_aload_n (q := 0) dX13_make_318)) (pr_aS_c (pr_eI (os_get (kf := 10) dX13_make_319 cf_13 (by decide) wd_452)) (pr_aS_c (pr_eI (os_iload dX13_make_322)) (pr_aS_c (pr_eI (os_iald dX13_make_324)) (pr_aS_c (pr_eI (os_iast dX13_make_325)) (pr_aS_c (pr_eI (os_aload_n (q := 0) dX13_make_326)) (pr_aS_c (pr_eI (os_get (kf := 10) dX13_make_327 cf_13 (by decide) wd_452)) (pr_aS_c (pr_eI (os_iload dX13_make_330)) (pr_aS_c (pr_eI (os_iload dX13_make_332)) (pr_aS_c (pr_eI (os_iast dX13_make_334)) (pr_aS_c (pr_eI (os_iload dX13_make_335)) (pr_aS_c (pr_eR (rs_i dX13_make_337 rfl)) trivial))))))))))))))))))))))))))))))))))))))))))))))))))))))))))))))))))))))))))))))))))))))))))))))))))))))))))))))))))))))))))))))
theorem dX13_has_0 : decode cX13_has 0 = .ok (.iconst 1, 1) := by decide +kernel
theorem dX13_has_1 : decode cX13_has 1 = .ok (.istore 4, 2) := by decide +kernel
theorem dX13_has_3 : decode cX13_has 3 = .ok (.iconst 0, 1) := by decide +kernel
theorem dX13_has_4 : decode cX13_has 4 = .ok (.istore 5, 2) := by decide +kernel
theorem dX13_has_6 : decode cX13_has 6 = .ok (.iload 5, 2) := by decide +kernel
theorem dX13_has_8 : decode cX13_has 8 = .ok (.aload_n 0, 1) := by decide +kernel
theorem dX13_has_9 : decode cX13_has 9 = .ok (.getfield 22, 3) := by decide +kernel
theorem dX13_has_12 : decode cX13_has 12 = .ok (.iload_n 1, 1) := by decide +kernel
theorem dX13_has_13 : decode cX13_has 13 = .ok (.iaload, 1) := by decide +kernel
theorem dX13_has_14 : decode cX13_has 14 = .ok (.if_icmp .ge 44, 3) := by decide +kernel
theorem dX13_has_58 : decode cX13_has 58 = .ok (.iload 4, 2) := by decide +kernel
theorem dX13_has_60 : decode cX13_has 60 = .ok (.ireturn, 1) := by decide +kernel
/-- InferResolveModel$Store.has(I[II)Z -/
noncomputable def qc_97 : pr_Co := [(0, (.inl (po_push 1 1))), (1, (.inl (po_istore 4 3))), (3, (.inl (po_push 0 4))), (4, (.inl (po_istore 5 6))), (6, (.inl (po_iload 5 8))), (8, (.inl (po_aload 0 9))), (9, (.inl (po_get 13 5 12))), (12, (.inl (po_iload 1 13))), (13, (.inl (po_iald 14))), (14, (.inl (po_if2 (fun x y => decide (y ≤ x)) 58 17))), (58, (.inl (po_iload 4 60))), (60, (.inr (re_z)))]
set_option maxRecDepth 100000 in
set_option maxHeartbeats 4000000 in
theorem qs_97 : pr_aS pr_ms m_97 [(0, (.inl (po_push 1 1))), (1, (.inl (po_istore 4 3))), (3, (.inl (po_push 0 4))), (4, (.inl (po_istore 5 6))), (6, (.inl (po_iload 5 8))), (8, (.inl (po_aload 0 9))), (9, (.inl (po_get 13 5 12))), (12, (.inl (po_iload 1 13))), (13, (.inl (po_iald 14))), (14, (.inl (po_if2 (fun x y => decide (y ≤ x)) 58 17))), (58, (.inl (po_iload 4 60))), (60, (.inr (re_z)))] := pr_aS_c (pr_eI (os_iconst dX13_has_0 (by decide +kernel))) (pr_aS_c (pr_eI (os_istore dX13_has_1 (by decide))) (pr_aS_c (pr_eI (os_iconst dX13_has_3 (by decide +kernel))) (pr_aS_c (pr_eI (os_istore dX13_has_4 (by decide))) (pr_aS_c (pr_eI (os_iload dX13_has_6)) (pr_aS_c (pr_eI (os_aload_n (q := 0) dX13_has_8)) (pr_aS_c (pr_eI (os_get (kf := 5) dX13_has_9 cf_13 (by decide) wd_446)) (pr_aS_c (pr_eI (os_iload_n (q := 1) dX13_has_12)) (pr_aS_c (pr_eI (os_iald dX13_has_13)) (pr_aS_c (pr_eI (os_icmp_ge dX13_has_14 (by decide))) (pr_aS_c (pr_eI (os_iload dX13_has_58)) (pr_aS_c (pr_eR (rs_z dX13_has_60 rfl)) trivial)))))))))))
theorem dJ0_length_8abf5_0 : decode cJ0_length_8abf5 0 = .ok (.aload_n 0, 1) := by decide +kernel
theorem dJ0_length_8abf5_1 : decode cJ0_length_8abf5 1 = .ok (.getfield 9, 3) := by decide +kernel
theorem dJ0_length_8abf5_4 : decode cJ0_length_8abf5 4 = .ok (.arraylength, 1) := by decide +kernel
theorem dJ0_length_8abf5_5 : decode cJ0_length_8abf5 5 = .ok (.aload_n 0, 1) := by decide +kernel
theorem dJ0_length_8abf5_6 : decode cJ0_length_8abf5 6 = .ok (.invokevirtual 335, 3) := by decide +kernel
theorem dJ0_length_8abf5_9 : decode cJ0_length_8abf5 9 = .ok (.ishr, 1) := by decide +kernel
theorem dJ0_length_8abf5_10 : decode cJ0_length_8abf5 10 = .ok (.ireturn, 1) := by decide +kernel
/-- java/lang/String.length()I -/
noncomputable def qc_98 : pr_Co := [(0, (.inl (po_aloadM 0 1))), (1, (.inl (po_getV 4))), (4, (.inl (po_alenS 5))), (5, (.inl (po_aloadM 0 6))), (6, (.inl (po_ct 99 0 1 9))), (9, (.inl (po_i2 (fun x y => x >>> (y &&& 31)) 10))), (10, (.inr (re_i)))]
set_option maxRecDepth 100000 in
set_option maxHeartbeats 4000000 in
theorem qs_98 : pr_aS pr_ms m_98 [(0, (.inl (po_aloadM 0 1))), (1, (.inl (po_getV 4))), (4, (.inl (po_alenS 5))), (5, (.inl (po_aloadM 0 6))), (6, (.inl (po_ct 99 0 1 9))), (9, (.inl (po_i2 (fun x y => x >>> (y &&& 31)) 10))), (10, (.inr (re_i)))] := pr_aS_c (pr_eI (os_aloadM_n (q := 0) dJ0_length_8abf5_0)) (pr_aS_c (pr_eI (os_getV dJ0_length_8abf5_1 wd_461)) (pr_aS_c (pr_eI (os_alenS dJ0_length_8abf5_4)) (pr_aS_c (pr_eI (os_aloadM_n (q := 0) dJ0_length_8abf5_5)) (pr_aS_c (pr_eI (os_ct dJ0_length_8abf5_6 (k := 99) rfl rfl cal_99 wd_462 wd_464 wd_463 rfl)) (pr_aS_c (pr_eI (os_ishr dJ0_length_8abf5_9)) (pr_aS_c (pr_eR (rs_i dJ0_length_8abf5_10 rfl)) trivial))))))
theorem dJ0_coder_7d493_0 : decode cJ0_coder_7d493 0 = .ok (.getstatic 38, 3) := by decide +kernel
theorem dJ0_coder_7d493_3 : decode cJ0_coder_7d493 3 = .ok (.ifCond .eq 10, 3) := by decide +kernel
theorem dJ0_coder_7d493_6 : decode cJ0_coder_7d493 6 = .ok (.aload_n 0, 1) := by decide +kernel
theorem dJ0_coder_7d493_7 : decode cJ0_coder_7d493 7 = .ok (.getfield 15, 3) := by decide +kernel
theorem dJ0_coder_7d493_10 : decode cJ0_coder_7d493 10 = .ok (.goto 4, 3) := by decide +kernel
theorem dJ0_coder_7d493_13 : decode cJ0_coder_7d493 13 = .ok (.iconst 1, 1) := by decide +kernel
theorem dJ0_coder_7d493_14 : decode cJ0_coder_7d493 14 = .ok (.ireturn, 1) := by decide +kernel
/-- java/lang/String.coder()B -/
noncomputable def qc_99 : pr_Co := [(0, (.inl (po_push 1 3))), (3, (.inl (po_if1 (fun x => decide (x = 0)) 13 6))), (6, (.inl (po_aloadM 0 7))), (7, (.inl (po_getC 10))), (10, (.inl (po_goto 14))), (13, (.inl (po_push 1 14))), (14, (.inr (re_n .byte)))]
set_option maxRecDepth 100000 in
set_option maxHeartbeats 4000000 in
theorem qs_99 : pr_aS pr_ms m_99 [(0, (.inl (po_push 1 3))), (3, (.inl (po_if1 (fun x => decide (x = 0)) 13 6))), (6, (.inl (po_aloadM 0 7))), (7, (.inl (po_getC 10))), (10, (.inl (po_goto 14))), (13, (.inl (po_push 1 14))), (14, (.inr (re_n .byte)))] := pr_aS_c (pr_eI (os_gsC dJ0_coder_7d493_0 wd_465)) (pr_aS_c (pr_eI (os_if_eq dJ0_coder_7d493_3 (by decide))) (pr_aS_c (pr_eI (os_aloadM_n (q := 0) dJ0_coder_7d493_6)) (pr_aS_c (pr_eI (os_getC dJ0_coder_7d493_7 wd_466)) (pr_aS_c (pr_eI (os_goto dJ0_coder_7d493_10 (by decide))) (pr_aS_c (pr_eI (os_iconst dJ0_coder_7d493_13 (by decide +kernel))) (pr_aS_c (pr_eR (rs_n dJ0_coder_7d493_14 rfl)) trivial))))))
theorem dJ0_charAt_5068e_0 : decode cJ0_charAt_5068e 0 = .ok (.aload_n 0, 1) := by decide +kernel
theorem dJ0_charAt_5068e_1 : decode cJ0_charAt_5068e 1 = .ok (.invokevirtual 492, 3) := by decide +kernel
theorem dJ0_charAt_5068e_4 : decode cJ0_charAt_5068e 4 = .ok (.ifCond .eq 12, 3) := by decide +kernel
theorem dJ0_charAt_5068e_7 : decode cJ0_charAt_5068e 7 = .ok (.aload_n 0, 1) := by decide +kernel
theorem dJ0_charAt_5068e_8 : decode cJ0_charAt_5068e 8 = .ok (.getfield 9, 3) := by decide +kernel
theorem dJ0_charAt_5068e_11 : decode cJ0_charAt_5068e 11 = .ok (.iload_n 1, 1) := by decide +kernel
theorem dJ0_charAt_5068e_12 : decode cJ0_charAt_5068e 12 = .ok (.invokestatic 495, 3) := by decide +kernel
theorem dJ0_charAt_5068e_15 : decode cJ0_charAt_5068e 15 = .ok (.ireturn, 1) := by decide +kernel
/-- java/lang/String.charAt(I)C -/
noncomputable def qc_100 : pr_Co := [(0, (.inl (po_aloadM 0 1))), (1, (.inl (po_ct 101 0 1 4))), (4, (.inl (po_if1 (fun x => decide (x = 0)) 16 7))), (7, (.inl (po_aloadM 0 8))), (8, (.inl (po_getV 11))), (11, (.inl (po_iload 1 12))), (12, (.inl (po_cs 102 2 2 15))), (15, (.inr (re_n .char)))]
set_option maxRecDepth 100000 in
set_option maxHeartbeats 4000000 in
theorem qs_100 : pr_aS pr_ms m_100 [(0, (.inl (po_aloadM 0 1))), (1, (.inl (po_ct 101 0 1 4))), (4, (.inl (po_if1 (fun x => decide (x = 0)) 16 7))), (7, (.inl (po_aloadM 0 8))), (8, (.inl (po_getV 11))), (11, (.inl (po_iload 1 12))), (12, (.inl (po_cs 102 2 2 15))), (15, (.inr (re_n .char)))] := pr_aS_c (pr_eI (os_aloadM_n (q := 0) dJ0_charAt_5068e_0)) (pr_aS_c (pr_eI (os_ct dJ0_charAt_5068e_1 (k := 101) rfl rfl cal_101 wd_467 wd_469 wd_468 rfl)) (pr_aS_c (pr_eI (os_if_eq dJ0_charAt_5068e_4 (by decide))) (pr_aS_c (pr_eI (os_aloadM_n (q := 0) dJ0_charAt_5068e_7)) (pr_aS_c (pr_eI (os_getV dJ0_charAt_5068e_8 wd_461)) (pr_aS_c (pr_eI (os_iload_n (q := 1) dJ0_charAt_5068e_11)) (pr_aS_c (pr_eI (os_cs dJ0_charAt_5068e_12 (k := 102) rfl rfl cal_102 wd_470 wd_471)) (pr_aS_c (pr_eR (rs_n dJ0_charAt_5068e_15 rfl)) trivial)))))))
theorem dJ0_isLatin1_aae02_0 : decode cJ0_isLatin1_aae02 0 = .ok (.getstatic 38, 3) := by decide +kernel
theorem dJ0_isLatin1_aae02_3 : decode cJ0_isLatin1_aae02 3 = .ok (.ifCond .eq 14, 3) := by decide +kernel
theorem dJ0_isLatin1_aae02_6 : decode cJ0_isLatin1_aae02 6 = .ok (.aload_n 0, 1) := by decide +kernel
theorem dJ0_isLatin1_aae02_7 : decode cJ0_isLatin1_aae02 7 = .ok (.getfield 15, 3) := by decide +kernel
theorem dJ0_isLatin1_aae02_10 : decode cJ0_isLatin1_aae02 10 = .ok (.ifCond .ne 7, 3) := by decide +kernel
theorem dJ0_isLatin1_aae02_13 : decode cJ0_isLatin1_aae02 13 = .ok (.iconst 1, 1) := by decide +kernel
theorem dJ0_isLatin1_aae02_14 : decode cJ0_isLatin1_aae02 14 = .ok (.goto 4, 3) := by decide +kernel
theorem dJ0_isLatin1_aae02_17 : decode cJ0_isLatin1_aae02 17 = .ok (.iconst 0, 1) := by decide +kernel
theorem dJ0_isLatin1_aae02_18 : decode cJ0_isLatin1_aae02 18 = .ok (.ireturn, 1) := by decide +kernel
/-- java/lang/String.isLatin1()Z -/
noncomputable def qc_101 : pr_Co := [(0, (.inl (po_push 1 3))), (3, (.inl (po_if1 (fun x => decide (x = 0)) 17 6))), (6, (.inl (po_aloadM 0 7))), (7, (.inl (po_getC 10))), (10, (.inl (po_if1 (fun x => !decide (x = 0)) 17 13))), (13, (.inl (po_push 1 14))), (14, (.inl (po_goto 18))), (17, (.inl (po_push 0 18))), (18, (.inr (re_z)))]
set_option maxRecDepth 100000 in
set_option maxHeartbeats 4000000 in
theorem qs_101 : pr_aS pr_ms m_101 [(0, (.inl (po_push 1 3))), (3, (.inl (po_if1 (fun x => decide (x = 0)) 17 6))), (6, (.inl (po_aloadM 0 7))), (7, (.inl (po_getC 10))), (10, (.inl (po_if1 (fun x => !decide (x = 0)) 17 13))), (13, (.inl (po_push 1 14))), (14, (.inl (po_goto 18))), (17, (.inl (po_push 0 18))), (18, (.inr (re_z)))] := pr_aS_c (pr_eI (os_gsC dJ0_isLatin1_aae02_0 wd_465)) (pr_aS_c (pr_eI (os_if_eq dJ0_isLatin1_aae02_3 (by decide))) (pr_aS_c (pr_eI (os_aloadM_n (q := 0) dJ0_isLatin1_aae02_6)) (pr_aS_c (pr_eI (os_getC dJ0_isLatin1_aae02_7 wd_466)) (pr_aS_c (pr_eI (os_if_ne dJ0_isLatin1_aae02_10 (by decide))) (pr_aS_c (pr_eI (os_iconst dJ0_isLatin1_aae02_13 (by decide +kernel))) (pr_aS_c (pr_eI (os_goto dJ0_isLatin1_aae02_14 (by decide))) (pr_aS_c (pr_eI (os_iconst dJ0_isLatin1_aae02_17 (by decide +kernel))) (pr_aS_c (pr_eR (rs_z dJ0_isLatin1_aae02_18 rfl)) trivial))))))))
theorem dJ1_charAt_3b067_0 : decode cJ1_charAt_3b067 0 = .ok (.iload_n 1, 1) := by decide +kernel
theorem dJ1_charAt_3b067_1 : decode cJ1_charAt_3b067 1 = .ok (.aload_n 0, 1) := by decide +kernel
theorem dJ1_charAt_3b067_2 : decode cJ1_charAt_3b067 2 = .ok (.arraylength, 1) := by decide +kernel
theorem dJ1_charAt_3b067_3 : decode cJ1_charAt_3b067 3 = .ok (.invokestatic 9, 3) := by decide +kernel
theorem dJ1_charAt_3b067_6 : decode cJ1_charAt_3b067 6 = .ok (.aload_n 0, 1) := by decide +kernel
theorem dJ1_charAt_3b067_7 : decode cJ1_charAt_3b067 7 = .ok (.iload_n 1, 1) := by decide +kernel
theorem dJ1_charAt_3b067_8 : decode cJ1_charAt_3b067 8 = .ok (.baload, 1) := by decide +kernel
theorem dJ1_charAt_3b067_9 : decode cJ1_charAt_3b067 9 = .ok (.sipush 255, 3) := by decide +kernel
theorem dJ1_charAt_3b067_12 : decode cJ1_charAt_3b067 12 = .ok (.iand, 1) := by decide +kernel
theorem dJ1_charAt_3b067_13 : decode cJ1_charAt_3b067 13 = .ok (.i2c, 1) := by decide +kernel
theorem dJ1_charAt_3b067_14 : decode cJ1_charAt_3b067 14 = .ok (.ireturn, 1) := by decide +kernel
/-- java/lang/StringLatin1.charAt([BI)C -/
noncomputable def qc_102 : pr_Co := [(0, (.inl (po_iload 1 1))), (1, (.inl (po_aloadM 0 2))), (2, (.inl (po_alenS 3))), (3, (.inl (po_cs 103 2 2 6))), (6, (.inl (po_aloadM 0 7))), (7, (.inl (po_iload 1 8))), (8, (.inl (po_baldS 9))), (9, (.inl (po_push 255 12))), (12, (.inl (po_i2 (fun x y => x &&& y) 13))), (13, (.inl (po_i1 (fun x => (x.toUInt32 % 65536).toInt32) 14))), (14, (.inr (re_n .char)))]
set_option maxRecDepth 100000 in
set_option maxHeartbeats 4000000 in
theorem qs_102 : pr_aS pr_ms m_102 [(0, (.inl (po_iload 1 1))), (1, (.inl (po_aloadM 0 2))), (2, (.inl (po_alenS 3))), (3, (.inl (po_cs 103 2 2 6))), (6, (.inl (po_aloadM 0 7))), (7, (.inl (po_iload 1 8))), (8, (.inl (po_baldS 9))), (9, (.inl (po_push 255 12))), (12, (.inl (po_i2 (fun x y => x &&& y) 13))), (13, (.inl (po_i1 (fun x => (x.toUInt32 % 65536).toInt32) 14))), (14, (.inr (re_n .char)))] := pr_aS_c (pr_eI (os_iload_n (q := 1) dJ1_charAt_3b067_0)) (pr_aS_c (pr_eI (os_aloadM_n (q := 0) dJ1_charAt_3b067_1)) (pr_aS_c (pr_eI (os_alenS dJ1_charAt_3b067_2)) (pr_aS_c (pr_eI (os_cs dJ1_charAt_3b067_3 (k := 103) rfl rfl cal_103 wd_472 wd_473)) (pr_aS_c (pr_eI (os_aloadM_n (q := 0) dJ1_charAt_3b067_6)) (pr_aS_c (pr_eI (os_iload_n (q := 1) dJ1_charAt_3b067_7)) (pr_aS_c (pr_eI (os_baldS dJ1_charAt_3b067_8)) (pr_aS_c (pr_eI (os_sipush dJ1_charAt_3b067_9 (by decide +kernel))) (pr_aS_c (pr_eI (os_iand dJ1_charAt_3b067_12)) (pr_aS_c (pr_eI (os_i2c dJ1_charAt_3b067_13)) (pr_aS_c (pr_eR (rs_n dJ1_charAt_3b067_14 rfl)) trivial))))))))))
theorem dJ0_checkIndex_df160_0 : decode cJ0_checkIndex_df160 0 = .ok (.iload_n 0, 1) := by decide +kernel
theorem dJ0_checkIndex_df160_1 : decode cJ0_checkIndex_df160 1 = .ok (.iload_n 1, 1) := by decide +kernel
theorem dJ0_checkIndex_df160_2 : decode cJ0_checkIndex_df160 2 = .ok (.getstatic 1053, 3) := by decide +kernel
theorem dJ0_checkIndex_df160_5 : decode cJ0_checkIndex_df160 5 = .ok (.invokestatic 1059, 3) := by decide +kernel
theorem dJ0_checkIndex_df160_8 : decode cJ0_checkIndex_df160 8 = .ok (.pop, 1) := by decide +kernel
theorem dJ0_checkIndex_df160_9 : decode cJ0_checkIndex_df160 9 = .ok (.return_, 1) := by decide +kernel
/-- java/lang/String.checkIndex(II)V -/
noncomputable def qc_103 : pr_Co := [(0, (.inl (po_iload 0 1))), (1, (.inl (po_iload 1 2))), (2, (.inl (po_mark 50 5))), (5, (.inl (po_cs 104 3 3 8))), (8, (.inl (po_pop 9))), (9, (.inr (re_v)))]
set_option maxRecDepth 100000 in
set_option maxHeartbeats 4000000 in
theorem qs_103 : pr_aS pr_ms m_103 [(0, (.inl (po_iload 0 1))), (1, (.inl (po_iload 1 2))), (2, (.inl (po_mark 50 5))), (5, (.inl (po_cs 104 3 3 8))), (8, (.inl (po_pop 9))), (9, (.inr (re_v)))] := pr_aS_c (pr_eI (os_iload_n (q := 0) dJ0_checkIndex_df160_0)) (pr_aS_c (pr_eI (os_iload_n (q := 1) dJ0_checkIndex_df160_1)) (pr_aS_c (pr_eI (os_gsF dJ0_checkIndex_df160_2 wd_474)) (pr_aS_c (pr_eI (os_cs dJ0_checkIndex_df160_5 (k := 104) rfl rfl cal_104 wd_475 wd_476)) (pr_aS_c (pr_eI (os_pop dJ0_checkIndex_df160_8)) (pr_aS_c (pr_eR (rs_v dJ0_checkIndex_df160_9 rfl)) trivial)))))
theorem dJ3_checkIndex_8e157_0 : decode cJ3_checkIndex_8e157 0 = .ok (.iload_n 0, 1) := by decide +kernel
theorem dJ3_checkIndex_8e157_1 : decode cJ3_checkIndex_8e157 1 = .ok (.ifCond .lt 8, 3) := by decide +kernel
theorem dJ3_checkIndex_8e157_4 : decode cJ3_checkIndex_8e157 4 = .ok (.iload_n 0, 1) := by decide +kernel
theorem dJ3_checkIndex_8e157_5 : decode cJ3_checkIndex_8e157 5 = .ok (.iload_n 1, 1) := by decide +kernel
theorem dJ3_checkIndex_8e157_6 : decode cJ3_checkIndex_8e157 6 = .ok (.if_icmp .lt 10, 3) := by decide +kernel
theorem dJ3_checkIndex_8e157_10 : decode cJ3_checkIndex_8e157 10 = .ok (.iload_n 0, 1) := by decide +kernel
theorem dJ3_checkIndex_8e157_11 : decode cJ3_checkIndex_8e157 11 = .ok (.iload_n 1, 1) := by decide +kernel
theorem dJ3_checkIndex_8e157_16 : decode cJ3_checkIndex_8e157 16 = .ok (.iload_n 0, 1) := by decide +kernel
theorem dJ3_checkIndex_8e157_17 : decode cJ3_checkIndex_8e157 17 = .ok (.ireturn, 1) := by decide +kernel
/-- jdk/internal/util/Preconditions.checkIndex(IILjava/util/function/BiFunction;)I -/
noncomputable def qc_104 : pr_Co := [(0, (.inl (po_iload 0 1))), (1, (.inl (po_if1 (fun x => decide (x < 0)) 9 4))), (4, (.inl (po_iload 0 5))), (5, (.inl (po_iload 1 6))), (6, (.inl (po_if2 (fun x y => decide (x < y)) 16 9))), (10, (.inl (po_iload 0 11))), (11, (.inl (po_iload 1 12))), (16, (.inl (po_iload 0 17))), (17, (.inr (re_i)))]
set_option maxRecDepth 100000 in
set_option maxHeartbeats 4000000 in
theorem qs_104 : pr_aS pr_ms m_104 [(0, (.inl (po_iload 0 1))), (1, (.inl (po_if1 (fun x => decide (x < 0)) 9 4))), (4, (.inl (po_iload 0 5))), (5, (.inl (po_iload 1 6))), (6, (.inl (po_if2 (fun x y => decide (x < y)) 16 9))), (10, (.inl (po_iload 0 11))), (11, (.inl (po_iload 1 12))), (16, (.inl (po_iload 0 17))), (17, (.inr (re_i)))] := pr_aS_c (pr_eI (os_iload_n (q := 0) dJ3_checkIndex_8e157_0)) (pr_aS_c (pr_eI (os_if_lt dJ3_checkIndex_8e157_1 (by decide))) (pr_aS_c (pr_eI (os_iload_n (q := 0) dJ3_checkIndex_8e157_4)) (pr_aS_c (pr_eI (os_iload_n (q := 1) dJ3_checkIndex_8e157_5)) (pr_aS_c (pr_eI (os_icmp_lt dJ3_checkIndex_8e157_6 (by decide))) (pr_aS_c (pr_eI (os_iload_n (q := 0) dJ3_checkIndex_8e157_10)) (pr_aS_c (pr_eI (os_iload_n (q := 1) dJ3_checkIndex_8e157_11)) (pr_aS_c (pr_eI (os_iload_n (q := 0) dJ3_checkIndex_8e157_16)) (pr_aS_c (pr_eR (rs_i dJ3_checkIndex_8e157_17 rfl)) trivial))))))))
theorem dJ7_fill_53178_0 : decode cJ7_fill_53178 0 = .ok (.iconst 0, 1) := by decide +kernel
theorem dJ7_fill_53178_1 : decode cJ7_fill_53178 1 = .ok (.istore_n 2, 1) := by decide +kernel
theorem dJ7_fill_53178_2 : decode cJ7_fill_53178 2 = .ok (.aload_n 0, 1) := by decide +kernel
theorem dJ7_fill_53178_3 : decode cJ7_fill_53178 3 = .ok (.arraylength, 1) := by decide +kernel
theorem dJ7_fill_53178_4 : decode cJ7_fill_53178 4 = .ok (.istore_n 3, 1) := by decide +kernel
theorem dJ7_fill_53178_5 : decode cJ7_fill_53178 5 = .ok (.iload_n 2, 1) := by decide +kernel
theorem dJ7_fill_53178_6 : decode cJ7_fill_53178 6 = .ok (.iload_n 3, 1) := by decide +kernel
theorem dJ7_fill_53178_7 : decode cJ7_fill_53178 7 = .ok (.if_icmp .ge 13, 3) := by decide +kernel
theorem dJ7_fill_53178_10 : decode cJ7_fill_53178 10 = .ok (.aload_n 0, 1) := by decide +kernel
theorem dJ7_fill_53178_11 : decode cJ7_fill_53178 11 = .ok (.iload_n 2, 1) := by decide +kernel
theorem dJ7_fill_53178_12 : decode cJ7_fill_53178 12 = .ok (.iload_n 1, 1) := by decide +kernel
theorem dJ7_fill_53178_13 : decode cJ7_fill_53178 13 = .ok (.iastore, 1) := by decide +kernel
theorem dJ7_fill_53178_14 : decode cJ7_fill_53178 14 = .ok (.iinc 2 1, 3) := by decide +kernel
theorem dJ7_fill_53178_17 : decode cJ7_fill_53178 17 = .ok (.goto (-12), 3) := by decide +kernel
theorem dJ7_fill_53178_20 : decode cJ7_fill_53178 20 = .ok (.return_, 1) := by decide +kernel
/-- java/util/Arrays.fill([II)V -/
noncomputable def qc_105 : pr_Co := [(0, (.inl (po_push 0 1))), (1, (.inl (po_istore 2 2))), (2, (.inl (po_aload 0 3))), (3, (.inl (po_alen 4))), (4, (.inl (po_istore 3 5))), (5, (.inl (po_iload 2 6))), (6, (.inl (po_iload 3 7))), (7, (.inl (po_if2 (fun x y => decide (y ≤ x)) 20 10))), (10, (.inl (po_aload 0 11))), (11, (.inl (po_iload 2 12))), (12, (.inl (po_iload 1 13))), (13, (.inl (po_iast 14))), (14, (.inl (po_iinc 2 1 17))), (17, (.inl (po_goto 5))), (20, (.inr (re_v)))]
set_option maxRecDepth 100000 in
set_option maxHeartbeats 4000000 in
theorem qs_105 : pr_aS pr_ms m_105 [(0, (.inl (po_push 0 1))), (1, (.inl (po_istore 2 2))), (2, (.inl (po_aload 0 3))), (3, (.inl (po_alen 4))), (4, (.inl (po_istore 3 5))), (5, (.inl (po_iload 2 6))), (6, (.inl (po_iload 3 7))), (7, (.inl (po_if2 (fun x y => decide (y ≤ x)) 20 10))), (10, (.inl (po_aload 0 11))), (11, (.inl (po_iload 2 12))), (12, (.inl (po_iload 1 13))), (13, (.inl (po_iast 14))), (14, (.inl (po_iinc 2 1 17))), (17, (.inl (po_goto 5))), (20, (.inr (re_v)))] := pr_aS_c (pr_eI (os_iconst dJ7_fill_53178_0 (by decide +kernel))) (pr_aS_c (pr_eI (os_istore_n (q := 2) dJ7_fill_53178_1 (by decide))) (pr_aS_c (pr_eI (os_aload_n (q := 0) dJ7_fill_53178_2)) (pr_aS_c (pr_eI (os_alen dJ7_fill_53178_3)) (pr_aS_c (pr_eI (os_istore_n (q := 3) dJ7_fill_53178_4 (by decide))) (pr_aS_c (pr_eI (os_iload_n (q := 2) dJ7_fill_53178_5)) (pr_aS_c (pr_eI (os_iload_n (q := 3) dJ7_fill_53178_6)) (pr_aS_c (pr_eI (os_icmp_ge dJ7_fill_53178_7 (by decide))) (pr_aS_c (pr_eI (os_aload_n (q := 0) dJ7_fill_53178_10)) (pr_aS_c (pr_eI (os_iload_n (q := 2) dJ7_fill_53178_11)) (pr_aS_c (pr_eI (os_iload_n (q := 1) dJ7_fill_53178_12)) (pr_aS_c (pr_eI (os_iast dJ7_fill_53178_13)) (pr_aS_c (pr_eI (os_iinc dJ7_fill_53178_14 (by decide +kernel) (by decide))) (pr_aS_c (pr_eI (os_goto dJ7_fill_53178_17 (by decide))) (pr_aS_c (pr_eR (rs_v dJ7_fill_53178_20 rfl)) trivial))))))))))))))
theorem dJ6_bitCount_0f7a4_0 : decode cJ6_bitCount_0f7a4 0 = .ok (.iload_n 0, 1) := by decide +kernel
theorem dJ6_bitCount_0f7a4_1 : decode cJ6_bitCount_0f7a4 1 = .ok (.iload_n 0, 1) := by decide +kernel
theorem dJ6_bitCount_0f7a4_2 : decode cJ6_bitCount_0f7a4 2 = .ok (.iconst 1, 1) := by decide +kernel
theorem dJ6_bitCount_0f7a4_3 : decode cJ6_bitCount_0f7a4 3 = .ok (.iushr, 1) := by decide +kernel
theorem dJ6_bitCount_0f7a4_4 : decode cJ6_bitCount_0f7a4 4 = .ok (.ldc_w 265, 3) := by decide +kernel
theorem dJ6_bitCount_0f7a4_7 : decode cJ6_bitCount_0f7a4 7 = .ok (.iand, 1) := by decide +kernel
theorem dJ6_bitCount_0f7a4_8 : decode cJ6_bitCount_0f7a4 8 = .ok (.isub, 1) := by decide +kernel
theorem dJ6_bitCount_0f7a4_9 : decode cJ6_bitCount_0f7a4 9 = .ok (.istore_n 0, 1) := by decide +kernel
theorem dJ6_bitCount_0f7a4_10 : decode cJ6_bitCount_0f7a4 10 = .ok (.iload_n 0, 1) := by decide +kernel
theorem dJ6_bitCount_0f7a4_11 : decode cJ6_bitCount_0f7a4 11 = .ok (.ldc_w 266, 3) := by decide +kernel
theorem dJ6_bitCount_0f7a4_14 : decode cJ6_bitCount_0f7a4 14 = .ok (.iand, 1) := by decide +kernel
theorem dJ6_bitCount_0f7a4_15 : decode cJ6_bitCount_0f7a4 15 = .ok (.iload_n 0, 1) := by decide +kernel
theorem dJ6_bitCount_0f7a4_16 : decode cJ6_bitCount_0f7a4 16 = .ok (.iconst 2, 1) := by decide +kernel
theorem dJ6_bitCount_0f7a4_17 : decode cJ6_bitCount_0f7a4 17 = .ok (.iushr, 1) := by decide +kernel
theorem dJ6_bitCount_0f7a4_18 : decode cJ6_bitCount_0f7a4 18 = .ok (.ldc_w 266, 3) := by decide +kernel
theorem dJ6_bitCount_0f7a4_21 : decode cJ6_bitCount_0f7a4 21 = .ok (.iand, 1) := by decide +kernel
theorem dJ6_bitCount_0f7a4_22 : decode cJ6_bitCount_0f7a4 22 = .ok (.iadd, 1) := by decide +kernel
theorem dJ6_bitCount_0f7a4_23 : decode cJ6_bitCount_0f7a4 23 = .ok (.istore_n 0, 1) := by decide +kernel
theorem dJ6_bitCount_0f7a4_24 : decode cJ6_bitCount_0f7a4 24 = .ok (.iload_n 0, 1) := by decide +kernel
theorem dJ6_bitCount_0f7a4_25 : decode cJ6_bitCount_0f7a4 25 = .ok (.iload_n 0, 1) := by decide +kernel
theorem dJ6_bitCount_0f7a4_26 : decode cJ6_bitCount_0f7a4 26 = .ok (.iconst 4, 1) := by decide +kernel
theorem dJ6_bitCount_0f7a4_27 : decode cJ6_bitCount_0f7a4 27 = .ok (.iushr, 1) := by decide +kernel
theorem dJ6_bitCount_0f7a4_28 : decode cJ6_bitCount_0f7a4 28 = .ok (.iadd, 1) := by decide +kernel
theorem dJ6_bitCount_0f7a4_29 : decode cJ6_bitCount_0f7a4 29 = .ok (.ldc_w 267, 3) := by decide +kernel
theorem dJ6_bitCount_0f7a4_32 : decode cJ6_bitCount_0f7a4 32 = .ok (.iand, 1) := by decide +kernel
theorem dJ6_bitCount_0f7a4_33 : decode cJ6_bitCount_0f7a4 33 = .ok (.istore_n 0, 1) := by decide +kernel
theorem dJ6_bitCount_0f7a4_34 : decode cJ6_bitCount_0f7a4 34 = .ok (.iload_n 0, 1) := by decide +kernel
theorem dJ6_bitCount_0f7a4_35 : decode cJ6_bitCount_0f7a4 35 = .ok (.iload_n 0, 1) := by decide +kernel
theorem dJ6_bitCount_0f7a4_36 : decode cJ6_bitCount_0f7a4 36 = .ok (.bipush 8, 2) := by decide +kernel
theorem dJ6_bitCount_0f7a4_38 : decode cJ6_bitCount_0f7a4 38 = .ok (.iushr, 1) := by decide +kernel
theorem dJ6_bitCount_0f7a4_39 : decode cJ6_bitCount_0f7a4 39 = .ok (.iadd, 1) := by decide +kernel
theorem dJ6_bitCount_0f7a4_40 : decode cJ6_bitCount_0f7a4 40 = .ok (.istore_n 0, 1) := by decide +kernel
theorem dJ6_bitCount_0f7a4_41 : decode cJ6_bitCount_0f7a4 41 = .ok (.iload_n 0, 1) := by decide +kernel
theorem dJ6_bitCount_0f7a4_42 : decode cJ6_bitCount_0f7a4 42 = .ok (.iload_n 0, 1) := by decide +kernel
theorem dJ6_bitCount_0f7a4_43 : decode cJ6_bitCount_0f7a4 43 = .ok (.bipush 16, 2) := by decide +kernel
theorem dJ6_bitCount_0f7a4_45 : decode cJ6_bitCount_0f7a4 45 = .ok (.iushr, 1) := by decide +kernel
theorem dJ6_bitCount_0f7a4_46 : decode cJ6_bitCount_0f7a4 46 = .ok (.iadd, 1) := by decide +kernel
theorem dJ6_bitCount_0f7a4_47 : decode cJ6_bitCount_0f7a4 47 = .ok (.istore_n 0, 1) := by decide +kernel
theorem dJ6_bitCount_0f7a4_48 : decode cJ6_bitCount_0f7a4 48 = .ok (.iload_n 0, 1) := by decide +kernel
theorem dJ6_bitCount_0f7a4_49 : decode cJ6_bitCount_0f7a4 49 = .ok (.bipush 63, 2) := by decide +kernel
theorem dJ6_bitCount_0f7a4_51 : decode cJ6_bitCount_0f7a4 51 = .ok (.iand, 1) := by decide +kernel
theorem dJ6_bitCount_0f7a4_52 : decode cJ6_bitCount_0f7a4 52 = .ok (.ireturn, 1) := by decide +kernel
/-- java/lang/Integer.bitCount(I)I -/
noncomputable def qc_106 : pr_Co := [(0, (.inl (po_iload 0 1))), (1, (.inl (po_iload 0 2))), (2, (.inl (po_push 1 3))), (3, (.inl (po_i2 (fun x y => (x.toUInt32 >>> (y.toUInt32 &&& Int32.toUInt32 31)).toInt32) 4))), (4, (.inl (po_push 1431655765 7))), (7, (.inl (po_i2 (fun x y => x &&& y) 8))), (8, (.inl (po_i2 (fun x y => x - y) 9))), (9, (.inl (po_istore 0 10))), (10, (.inl (po_iload 0 11))), (11, (.inl (po_push 858993459 14))), (14, (.inl (po_i2 (fun x y => x &&& y) 15))), (15, (.inl (po_iload 0 16))), (16, (.inl (po_push 2 17))), (17, (.inl (po_i2 (fun x y => (x.toUInt32 >>> (y.toUInt32 &&& Int32.toUInt32 31)).toInt32) 18))), (18, (.inl (po_push 858993459 21))), (21, (.inl (po_i2 (fun x y => x &&& y) 22))), (22, (.inl (po_i2 (fun x y => x + y) 23))), (23, (.inl (po_istore 0 24))), (24, (.inl (po_iload 0 25))), (25, (.inl (po_iload 0 26))), (26, (.inl (po_push 4 27))), (27, (.inl (po_i2 (fun x y => (x.toUInt32 >>> (y.toUInt32 &&& Int32.toUInt32 31)).toInt32) 28))), (28, (.inl (po_i2 (fun x y => x + y) 29))), (29, (.inl (po_push 252645135 32))), (32, (.inl (po_i2 (fun x y => x &&& y) 33))), (33, (.inl (po_istore 0 34))), (34, (.inl (po_iload 0 35))), (35, (.inl (po_iload 0 36))), (36, (.inl (po_push 8 38))), (38, (.inl (po_i2 (fun x y => (x.toUInt32 >>> (y.toUInt32 &&& Int32.toUInt32 31)).toInt32) 39))), (39, (.inl (po_i2 (fun x y => x + y) 40))), (40, (.inl (po_istore 0 41))), (41, (.inl (po_iload 0 42))), (42, (.inl (po_iload 0 43))), (43, (.inl (po_push 16 45))), (45, (.inl (po_i2 (fun x y => (x.toUInt32 >>> (y.toUInt32 &&& Int32.toUInt32 31)).toInt32) 46))), (46, (.inl (po_i2 (fun x y => x + y) 47))), (47, (.inl (po_istore 0 48))), (48, (.inl (po_iload 0 49))), (49, (.inl (po_push 63 51))), (51, (.inl (po_i2 (fun x y => x &&& y) 52))), (52, (.inr (re_i)))]
set_option maxRecDepth 100000 in
set_option maxHeartbeats 4000000 in
theorem qs_106 : pr_aS pr_ms m_106 [(0, (.inl (po_iload 0 1))), (1, (.inl (po_iload 0 2))), (2, (.inl (po_push 1 3))), (3, (.inl (po_i2 (fun x y => (x.toUInt32 >>> (y.toUInt32 &&& Int32.toUInt32 31)).toInt32) 4))), (4, (.inl (po_push 1431655765 7))), (7, (.inl (po_i2 (fun x y => x &&& y) 8))), (8, (.inl (po_i2 (fun x y => x - y) 9))), (9, (.inl (po_istore 0 10))), (10, (.inl (po_iload 0 11))), (11, (.inl (po_push 858993459 14))), (14, (.inl (po_i2 (fun x y => x &&& y) 15))), (15, (.inl (po_iload 0 16))), (16, (.inl (po_push 2 17))), (17, (.inl (po_i2 (fun x y => (x.toUInt32 >>> (y.toUInt32 &&& Int32.toUInt32 31)).toInt32) 18))), (18, (.inl (po_push 858993459 21))), (21, (.inl (po_i2 (fun x y => x &&& y) 22))), (22, (.inl (po_i2 (fun x y => x + y) 23))), (23, (.inl (po_istore 0 24))), (24, (.inl (po_iload 0 25))), (25, (.inl (po_iload 0 26))), (26, (.inl (po_push 4 27))), (27, (.inl (po_i2 (fun x y => (x.toUInt32 >>> (y.toUInt32 &&& Int32.toUInt32 31)).toInt32) 28))), (28, (.inl (po_i2 (fun x y => x + y) 29))), (29, (.inl (po_push 252645135 32))), (32, (.inl (po_i2 (fun x y => x &&& y) 33))), (33, (.inl (po_istore 0 34))), (34, (.inl (po_iload 0 35))), (35, (.inl (po_iload 0 36))), (36, (.inl (po_push 8 38))), (38, (.inl (po_i2 (fun x y => (x.toUInt32 >>> (y.toUInt32 &&& Int32.toUInt32 31)).toInt32) 39))), (39, (.inl (po_i2 (fun x y => x + y) 40))), (40, (.inl (po_istore 0 41))), (41, (.inl (po_iload 0 42))), (42, (.inl (po_iload 0 43))), (43, (.inl (po_push 16 45))), (45, (.inl (po_i2 (fun x y => (x.toUInt32 >>> (y.toUInt32 &&& Int32.toUInt32 31)).toInt32) 46))), (46, (.inl (po_i2 (fun x y => x + y) 47))), (47, (.inl (po_istore 0 48))), (48, (.inl (po_iload 0 49))), (49, (.inl (po_push 63 51))), (51, (.inl (po_i2 (fun x y => x &&& y) 52))), (52, (.inr (re_i)))] := pr_aS_c (pr_eI (os_iload_n (q := 0) dJ6_bitCount_0f7a4_0)) (pr_aS_c (pr_eI (os_iload_n (q := 0) dJ6_bitCount_0f7a4_1)) (pr_aS_c (pr_eI (os_iconst dJ6_bitCount_0f7a4_2 (by decide +kernel))) (pr_aS_c (pr_eI (os_iushr dJ6_bitCount_0f7a4_3)) (pr_aS_c (pr_eI (os_ldcw dJ6_bitCount_0f7a4_4 wd_477)) (pr_aS_c (pr_eI (os_iand dJ6_bitCount_0f7a4_7)) (pr_aS_c (pr_eI (os_isub dJ6_bitCount_0f7a4_8)) (pr_aS_c (pr_eI (os_istore_n (q := 0) dJ6_bitCount_0f7a4_9 (by decide))) (pr_aS_c (pr_eI (os_iload_n (q := 0) dJ6_bitCount_0f7a4_10)) (pr_aS_c (pr_eI (os_ldcw dJ6_bitCount_0f7a4_11 wd_478)) (pr_aS_c (pr_eI (os_iand dJ6_bitCount_0f7a4_14)) (pr_aS_c (pr_eI (os_iload_n (q := 0) dJ6_bitCount_0f7a4_15)) (pr_aS_c (pr_eI (os_iconst dJ6_bitCount_0f7a4_16 (by decide +kernel))) (pr_aS_c (pr_eI (os_iushr dJ6_bitCount_0f7a4_17)) (pr_aS_c (pr_eI (os_ldcw dJ6_bitCount_0f7a4_18 wd_478)) (pr_aS_c (pr_eI (os_iand dJ6_bitCount_0f7a4_21)) (pr_aS_c (pr_eI (os_iadd dJ6_bitCount_0f7a4_22)) (pr_aS_c (pr_eI (os_istore_n (q := 0) dJ6_bitCount_0f7a4_23 (by decide))) (pr_aS_c (pr_eI (os_iload_n (q := 0) dJ6_bitCount_0f7a4_24)) (pr_aS_c (pr_eI (os_iload_n (q := 0) dJ6_bitCount_0f7a4_25)) (pr_aS_c (pr_eI (os_iconst dJ6_bitCount_0f7a4_26 (by decide +kernel))) (pr_aS_c (pr_eI (os_iushr dJ6_bitCount_0f7a4_27)) (pr_aS_c (pr_eI (os_iadd dJ6_bitCount_0f7a4_28)) (pr_aS_c (pr_eI (os_ldcw dJ6_bitCount_0f7a4_29 wd_479)) (pr_aS_c (pr_eI (os_iand dJ6_bitCount_0f7a4_32)) (pr_aS_c (pr_eI (os_istore_n (q := 0) dJ6_bitCount_0f7a4_33 (by decide))) (pr_aS_c (pr_eI (os_iload_n (q := 0) dJ6_bitCount_0f7a4_34)) (pr_aS_c (pr_eI (os_iload_n (q := 0) dJ6_bitCount_0f7a4_35)) (pr_aS_c (pr_eI (os_bipush dJ6_bitCount_0f7a4_36 (by decide +kernel))) (pr_aS_c (pr_eI (os_iushr dJ6_bitCount_0f7a4_38)) (pr_aS_c (pr_eI (os_iadd dJ6_bitCount_0f7a4_39)) (pr_aS_c (pr_eI (os_istore_n (q := 0) dJ6_bitCount_0f7a4_40 (by decide))) (pr_aS_c (pr_eI (os_iload_n (q := 0) dJ6_bitCount_0f7a4_41)) (pr_aS_c (pr_eI (os_iload_n (q := 0) dJ6_bitCount_0f7a4_42)) (pr_aS_c (pr_eI (os_bipush dJ6_bitCount_0f7a4_43 (by decide +kernel))) (pr_aS_c (pr_eI (os_iushr dJ6_bitCount_0f7a4_45)) (pr_aS_c (pr_eI (os_iadd dJ6_bitCount_0f7a4_46)) (pr_aS_c (pr_eI (os_istore_n (q := 0) dJ6_bitCount_0f7a4_47 (by decide))) (pr_aS_c (pr_eI (os_iload_n (q := 0) dJ6_bitCount_0f7a4_48)) (pr_aS_c (pr_eI (os_bipush dJ6_bitCount_0f7a4_49 (by decide +kernel))) (pr_aS_c (pr_eI (os_iand dJ6_bitCount_0f7a4_51)) (pr_aS_c (pr_eR (rs_i dJ6_bitCount_0f7a4_52 rfl)) trivial)))))))))))))))))))))))))))))))))))))))))
