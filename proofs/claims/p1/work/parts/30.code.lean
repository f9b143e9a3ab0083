/-! code tables (laid by a program) -/
theorem dX10_init_0 : decode cX10_init 0 = .ok (.aload_n 0, 1) := by decide +kernel
theorem dX10_init_1 : decode cX10_init 1 = .ok (.invokespecial 1, 3) := by decide +kernel
theorem dX10_init_4 : decode cX10_init 4 = .ok (.aload_n 0, 1) := by decide +kernel
theorem dX10_init_5 : decode cX10_init 5 = .ok (.new 7, 3) := by decide +kernel
theorem dX10_init_8 : decode cX10_init 8 = .ok (.dup, 1) := by decide +kernel
theorem dX10_init_9 : decode cX10_init 9 = .ok (.sipush 600, 3) := by decide +kernel
theorem dX10_init_12 : decode cX10_init 12 = .ok (.invokespecial 11, 3) := by decide +kernel
theorem dX10_init_15 : decode cX10_init 15 = .ok (.putfield 14, 3) := by decide +kernel
theorem dX10_init_18 : decode cX10_init 18 = .ok (.aload_n 0, 1) := by decide +kernel
theorem dX10_init_19 : decode cX10_init 19 = .ok (.new 7, 3) := by decide +kernel
theorem dX10_init_22 : decode cX10_init 22 = .ok (.dup, 1) := by decide +kernel
theorem dX10_init_23 : decode cX10_init 23 = .ok (.bipush 64, 2) := by decide +kernel
theorem dX10_init_25 : decode cX10_init 25 = .ok (.invokespecial 11, 3) := by decide +kernel
theorem dX10_init_28 : decode cX10_init 28 = .ok (.putfield 18, 3) := by decide +kernel
theorem dX10_init_31 : decode cX10_init 31 = .ok (.aload_n 0, 1) := by decide +kernel
theorem dX10_init_32 : decode cX10_init 32 = .ok (.new 7, 3) := by decide +kernel
theorem dX10_init_35 : decode cX10_init 35 = .ok (.dup, 1) := by decide +kernel
theorem dX10_init_36 : decode cX10_init 36 = .ok (.bipush 64, 2) := by decide +kernel
theorem dX10_init_38 : decode cX10_init 38 = .ok (.invokespecial 11, 3) := by decide +kernel
theorem dX10_init_41 : decode cX10_init 41 = .ok (.putfield 21, 3) := by decide +kernel
theorem dX10_init_44 : decode cX10_init 44 = .ok (.aload_n 0, 1) := by decide +kernel
theorem dX10_init_45 : decode cX10_init 45 = .ok (.new 24, 3) := by decide +kernel
theorem dX10_init_48 : decode cX10_init 48 = .ok (.dup, 1) := by decide +kernel
theorem dX10_init_49 : decode cX10_init 49 = .ok (.invokespecial 26, 3) := by decide +kernel
theorem dX10_init_52 : decode cX10_init 52 = .ok (.putfield 27, 3) := by decide +kernel
theorem dX10_init_55 : decode cX10_init 55 = .ok (.aload_n 0, 1) := by decide +kernel
theorem dX10_init_56 : decode cX10_init 56 = .ok (.new 24, 3) := by decide +kernel
theorem dX10_init_59 : decode cX10_init 59 = .ok (.dup, 1) := by decide +kernel
theorem dX10_init_60 : decode cX10_init 60 = .ok (.invokespecial 26, 3) := by decide +kernel
theorem dX10_init_63 : decode cX10_init 63 = .ok (.putfield 31, 3) := by decide +kernel
theorem dX10_init_66 : decode cX10_init 66 = .ok (.aload_n 0, 1) := by decide +kernel
theorem dX10_init_67 : decode cX10_init 67 = .ok (.new 34, 3) := by decide +kernel
theorem dX10_init_70 : decode cX10_init 70 = .ok (.dup, 1) := by decide +kernel
theorem dX10_init_71 : decode cX10_init 71 = .ok (.aload_n 0, 1) := by decide +kernel
theorem dX10_init_72 : decode cX10_init 72 = .ok (.getfield 14, 3) := by decide +kernel
theorem dX10_init_75 : decode cX10_init 75 = .ok (.aload_n 0, 1) := by decide +kernel
theorem dX10_init_76 : decode cX10_init 76 = .ok (.getfield 27, 3) := by decide +kernel
theorem dX10_init_79 : decode cX10_init 79 = .ok (.invokespecial 36, 3) := by decide +kernel
theorem dX10_init_82 : decode cX10_init 82 = .ok (.putfield 39, 3) := by decide +kernel
theorem dX10_init_85 : decode cX10_init 85 = .ok (.aload_n 0, 1) := by decide +kernel
theorem dX10_init_86 : decode cX10_init 86 = .ok (.new 43, 3) := by decide +kernel
theorem dX10_init_89 : decode cX10_init 89 = .ok (.dup, 1) := by decide +kernel
theorem dX10_init_90 : decode cX10_init 90 = .ok (.aload_n 0, 1) := by decide +kernel
theorem dX10_init_91 : decode cX10_init 91 = .ok (.getfield 27, 3) := by decide +kernel
theorem dX10_init_94 : decode cX10_init 94 = .ok (.invokespecial 45, 3) := by decide +kernel
theorem dX10_init_97 : decode cX10_init 97 = .ok (.putfield 48, 3) := by decide +kernel
theorem dX10_init_100 : decode cX10_init 100 = .ok (.aload_n 0, 1) := by decide +kernel
theorem dX10_init_101 : decode cX10_init 101 = .ok (.new 52, 3) := by decide +kernel
theorem dX10_init_104 : decode cX10_init 104 = .ok (.dup, 1) := by decide +kernel
theorem dX10_init_105 : decode cX10_init 105 = .ok (.aload_n 0, 1) := by decide +kernel
theorem dX10_init_106 : decode cX10_init 106 = .ok (.getfield 27, 3) := by decide +kernel
theorem dX10_init_109 : decode cX10_init 109 = .ok (.invokespecial 54, 3) := by decide +kernel
theorem dX10_init_112 : decode cX10_init 112 = .ok (.putfield 55, 3) := by decide +kernel
theorem dX10_init_115 : decode cX10_init 115 = .ok (.aload_n 0, 1) := by decide +kernel
theorem dX10_init_116 : decode cX10_init 116 = .ok (.new 59, 3) := by decide +kernel
theorem dX10_init_119 : decode cX10_init 119 = .ok (.dup, 1) := by decide +kernel
theorem dX10_init_120 : decode cX10_init 120 = .ok (.aload_n 0, 1) := by decide +kernel
theorem dX10_init_121 : decode cX10_init 121 = .ok (.getfield 55, 3) := by decide +kernel
theorem dX10_init_124 : decode cX10_init 124 = .ok (.aload_n 0, 1) := by decide +kernel
theorem dX10_init_125 : decode cX10_init 125 = .ok (.getfield 48, 3) := by decide +kernel
theorem dX10_init_128 : decode cX10_init 128 = .ok (.invokespecial 61, 3) := by decide +kernel
theorem dX10_init_131 : decode cX10_init 131 = .ok (.putfield 64, 3) := by decide +kernel
theorem dX10_init_134 : decode cX10_init 134 = .ok (.aload_n 0, 1) := by decide +kernel
theorem dX10_init_135 : decode cX10_init 135 = .ok (.new 68, 3) := by decide +kernel
theorem dX10_init_138 : decode cX10_init 138 = .ok (.dup, 1) := by decide +kernel
theorem dX10_init_139 : decode cX10_init 139 = .ok (.aload_n 0, 1) := by decide +kernel
theorem dX10_init_140 : decode cX10_init 140 = .ok (.getfield 27, 3) := by decide +kernel
theorem dX10_init_143 : decode cX10_init 143 = .ok (.aload_n 0, 1) := by decide +kernel
theorem dX10_init_144 : decode cX10_init 144 = .ok (.getfield 55, 3) := by decide +kernel
theorem dX10_init_147 : decode cX10_init 147 = .ok (.invokespecial 70, 3) := by decide +kernel
theorem dX10_init_150 : decode cX10_init 150 = .ok (.putfield 73, 3) := by decide +kernel
theorem dX10_init_153 : decode cX10_init 153 = .ok (.aload_n 0, 1) := by decide +kernel
theorem dX10_init_154 : decode cX10_init 154 = .ok (.new 77, 3) := by decide +kernel
theorem dX10_init_157 : decode cX10_init 157 = .ok (.dup, 1) := by decide +kernel
theorem dX10_init_158 : decode cX10_init 158 = .ok (.aload_n 0, 1) := by decide +kernel
theorem dX10_init_159 : decode cX10_init 159 = .ok (.getfield 27, 3) := by decide +kernel
theorem dX10_init_162 : decode cX10_init 162 = .ok (.aload_n 0, 1) := by decide +kernel
theorem dX10_init_163 : decode cX10_init 163 = .ok (.getfield 55, 3) := by decide +kernel
theorem dX10_init_166 : decode cX10_init 166 = .ok (.aload_n 0, 1) := by decide +kernel
theorem dX10_init_167 : decode cX10_init 167 = .ok (.getfield 73, 3) := by decide +kernel
theorem dX10_init_170 : decode cX10_init 170 = .ok (.invokespecial 79, 3) := by decide +kernel
theorem dX10_init_173 : decode cX10_init 173 = .ok (.putfield 82, 3) := by decide +kernel
theorem dX10_init_176 : decode cX10_init 176 = .ok (.aload_n 0, 1) := by decide +kernel
theorem dX10_init_177 : decode cX10_init 177 = .ok (.new 86, 3) := by decide +kernel
theorem dX10_init_180 : decode cX10_init 180 = .ok (.dup, 1) := by decide +kernel
theorem dX10_init_181 : decode cX10_init 181 = .ok (.aload_n 0, 1) := by decide +kernel
theorem dX10_init_182 : decode cX10_init 182 = .ok (.getfield 27, 3) := by decide +kernel
theorem dX10_init_185 : decode cX10_init 185 = .ok (.invokespecial 88, 3) := by decide +kernel
theorem dX10_init_188 : decode cX10_init 188 = .ok (.putfield 89, 3) := by decide +kernel
theorem dX10_init_191 : decode cX10_init 191 = .ok (.aload_n 0, 1) := by decide +kernel
theorem dX10_init_192 : decode cX10_init 192 = .ok (.new 93, 3) := by decide +kernel
theorem dX10_init_195 : decode cX10_init 195 = .ok (.dup, 1) := by decide +kernel
theorem dX10_init_196 : decode cX10_init 196 = .ok (.aload_n 0, 1) := by decide +kernel
theorem dX10_init_197 : decode cX10_init 197 = .ok (.getfield 55, 3) := by decide +kernel
theorem dX10_init_200 : decode cX10_init 200 = .ok (.aload_n 0, 1) := by decide +kernel
theorem dX10_init_201 : decode cX10_init 201 = .ok (.getfield 89, 3) := by decide +kernel
theorem dX10_init_204 : decode cX10_init 204 = .ok (.invokespecial 95, 3) := by decide +kernel
theorem dX10_init_207 : decode cX10_init 207 = .ok (.putfield 98, 3) := by decide +kernel
theorem dX10_init_210 : decode cX10_init 210 = .ok (.return_, 1) := by decide +kernel
/-- InferResolve.<init>()V -/
noncomputable def qc_0 : pr_Co := [(0, (.inl (po_aload 0 1))), (1, (.inl (po_oi 4))), (4, (.inl (po_aload 0 5))), (5, (.inl (po_new 7 [.null, .int 0] 8))), (8, (.inl (po_dup 9))), (9, (.inl (po_push 600 12))), (12, (.inl (po_ci 78 1 2 15))), (15, (.inl (po_putr 10 0 18))), (18, (.inl (po_aload 0 19))), (19, (.inl (po_new 7 [.null, .int 0] 22))), (22, (.inl (po_dup 23))), (23, (.inl (po_push 64 25))), (25, (.inl (po_ci 78 1 2 28))), (28, (.inl (po_putr 10 1 31))), (31, (.inl (po_aload 0 32))), (32, (.inl (po_new 7 [.null, .int 0] 35))), (35, (.inl (po_dup 36))), (36, (.inl (po_push 64 38))), (38, (.inl (po_ci 78 1 2 41))), (41, (.inl (po_putr 10 2 44))), (44, (.inl (po_aload 0 45))), (45, (.inl (po_new 2 [.null, .null, .null, .null, .null, .null, .int 0, .int 0, .int 0] 48))), (48, (.inl (po_dup 49))), (49, (.inl (po_ci 54 0 2 52))), (52, (.inl (po_putr 10 3 55))), (55, (.inl (po_aload 0 56))), (56, (.inl (po_new 2 [.null, .null, .null, .null, .null, .null, .int 0, .int 0, .int 0] 59))), (59, (.inl (po_dup 60))), (60, (.inl (po_ci 54 0 2 63))), (63, (.inl (po_putr 10 4 66))), (66, (.inl (po_aload 0 67))), (67, (.inl (po_new 5 [.null, .null, .null, .null, .null, .null, .int 0, .int 0, .int 0, .int 0, .int 0, .int 0, .int 0, .int 0, .int 0] 70))), (70, (.inl (po_dup 71))), (71, (.inl (po_aload 0 72))), (72, (.inl (po_get 10 0 75))), (75, (.inl (po_aload 0 76))), (76, (.inl (po_get 10 3 79))), (79, (.inl (po_ci 63 2 3 82))), (82, (.inl (po_putr 10 5 85))), (85, (.inl (po_aload 0 86))), (86, (.inl (po_new 9 [.null] 89))), (89, (.inl (po_dup 90))), (90, (.inl (po_aload 0 91))), (91, (.inl (po_get 10 3 94))), (94, (.inl (po_ci 88 1 2 97))), (97, (.inl (po_putr 10 6 100))), (100, (.inl (po_aload 0 101))), (101, (.inl (po_new 0 [.null, .null, .null, .null, .null, .null, .null, .null, .int 0] 104))), (104, (.inl (po_dup 105))), (105, (.inl (po_aload 0 106))), (106, (.inl (po_get 10 3 109))), (109, (.inl (po_ci 47 1 2 112))), (112, (.inl (po_putr 10 7 115))), (115, (.inl (po_aload 0 116))), (116, (.inl (po_new 4 [.null, .null, .null, .null, .null, .null, .int 0] 119))), (119, (.inl (po_dup 120))), (120, (.inl (po_aload 0 121))), (121, (.inl (po_get 10 7 124))), (124, (.inl (po_aload 0 125))), (125, (.inl (po_get 10 6 128))), (128, (.inl (po_ci 62 2 3 131))), (131, (.inl (po_putr 10 8 134))), (134, (.inl (po_aload 0 135))), (135, (.inl (po_new 6 [.null, .null, .null, .int 0, .int 0] 138))), (138, (.inl (po_dup 139))), (139, (.inl (po_aload 0 140))), (140, (.inl (po_get 10 3 143))), (143, (.inl (po_aload 0 144))), (144, (.inl (po_get 10 7 147))), (147, (.inl (po_ci 74 2 3 150))), (150, (.inl (po_putr 10 9 153))), (153, (.inl (po_aload 0 154))), (154, (.inl (po_new 1 [.null, .null, .null, .null, .null, .null, .null, .null, .null, .int 0] 157))), (157, (.inl (po_dup 158))), (158, (.inl (po_aload 0 159))), (159, (.inl (po_get 10 3 162))), (162, (.inl (po_aload 0 163))), (163, (.inl (po_get 10 7 166))), (166, (.inl (po_aload 0 167))), (167, (.inl (po_get 10 9 170))), (170, (.inl (po_ci 50 3 4 173))), (173, (.inl (po_putr 10 10 176))), (176, (.inl (po_aload 0 177))), (177, (.inl (po_new 3 [.null, .null, .null] 180))), (180, (.inl (po_dup 181))), (181, (.inl (po_aload 0 182))), (182, (.inl (po_get 10 3 185))), (185, (.inl (po_ci 61 1 2 188))), (188, (.inl (po_putr 10 11 191))), (191, (.inl (po_aload 0 192))), (192, (.inl (po_new 8 [.null, .null, .null, .null, .null, .null, .null] 195))), (195, (.inl (po_dup 196))), (196, (.inl (po_aload 0 197))), (197, (.inl (po_get 10 7 200))), (200, (.inl (po_aload 0 201))), (201, (.inl (po_get 10 11 204))), (204, (.inl (po_ci 84 2 3 207))), (207, (.inl (po_putr 10 12 210))), (210, (.inr (re_v)))]
set_option maxRecDepth 100000 in
set_option maxHeartbeats 4000000 in
theorem qs_0 : pr_aS pr_ms m_0 [(0, (.inl (po_aload 0 1))), (1, (.inl (po_oi 4))), (4, (.inl (po_aload 0 5))), (5, (.inl (po_new 7 [.null, .int 0] 8))), (8, (.inl (po_dup 9))), (9, (.inl (po_push 600 12))), (12, (.inl (po_ci 78 1 2 15))), (15, (.inl (po_putr 10 0 18))), (18, (.inl (po_aload 0 19))), (19, (.inl (po_new 7 [.null, .int 0] 22))), (22, (.inl (po_dup 23))), (23, (.inl (po_push 64 25))), (25, (.inl (po_ci 78 1 2 28))), (28, (.inl (po_putr 10 1 31))), (31, (.inl (po_aload 0 32))), (32, (.inl (po_new 7 [.null, .int 0] 35))), (35, (.inl (po_dup 36))), (36, (.inl (po_push 64 38))), (38, (.inl (po_ci 78 1 2 41))), (41, (.inl (po_putr 10 2 44))), (44, (.inl (po_aload 0 45))), (45, (.inl (po_new 2 [.null, .null, .null, .null, .null, .null, .int 0, .int 0, .int 0] 48))), (48, (.inl (po_dup 49))), (49, (.inl (po_ci 54 0 2 52))), (52, (.inl (po_putr 10 3 55))), (55, (.inl (po_aload 0 56))), (56, (.inl (po_new 2 [.null, .null, .null, .null, .null, .null, .int 0, .int 0, .int 0] 59))), (59, (.inl (po_dup 60))), (60, (.inl (po_ci 54 0 2 63))), (63, (.inl (po_putr 10 4 66))), (66, (.inl (po_aload 0 67))), (67, (.inl (po_new 5 [.null, .null, .null, .null, .null, .null, .int 0, .int 0, .int 0, .int 0, .int 0, .int 0, .int 0, .int 0, .int 0] 70))), (70, (.inl (po_dup 71))), (71, (.inl (po_aload 0 72))), (72, (.inl (po_get 10 0 75))), (75, (.inl (po_aload 0 76))), (76, (.inl (po_get 10 3 79))), (79, (.inl (po_ci 63 2 3 82))), (82, (.inl (po_putr 10 5 85))), (85, (.inl (po_aload 0 86))), (86, (.inl (po_new 9 [.null] 89))), (89, (.inl (po_dup 90))), (90, (.inl (po_aload 0 91))), (91, (.inl (po_get 10 3 94))), (94, (.inl (po_ci 88 1 2 97))), (97, (.inl (po_putr 10 6 100))), (100, (.inl (po_aload 0 101))), (101, (.inl (po_new 0 [.null, .null, .null, .null, .null, .null, .null, .null, .int 0] 104))), (104, (.inl (po_dup 105))), (105, (.inl (po_aload 0 106))), (106, (.inl (po_get 10 3 109))), (109, (.inl (po_ci 47 1 2 112))), (112, (.inl (po_putr 10 7 115))), (115, (.inl (po_aload 0 116))), (116, (.inl (po_new 4 [.null, .null, .null, .null, .null, .null, .int 0] 119))), (119, (.inl (po_dup 120))), (120, (.inl (po_aload 0 121))), (121, (.inl (po_get 10 7 124))), (124, (.inl (po_aload 0 125))), (125, (.inl (po_get 10 6 128))), (128, (.inl (po_ci 62 2 3 131))), (131, (.inl (po_putr 10 8 134))), (134, (.inl (po_aload 0 135))), (135, (.inl (po_new 6 [.null, .null, .null, .int 0, .int 0] 138))), (138, (.inl (po_dup 139))), (139, (.inl (po_aload 0 140))), (140, (.inl (po_get 10 3 143))), (143, (.inl (po_aload 0 144))), (144, (.inl (po_get 10 7 147))), (147, (.inl (po_ci 74 2 3 150))), (150, (.inl (po_putr 10 9 153))), (153, (.inl (po_aload 0 154))), (154, (.inl (po_new 1 [.null, .null, .null, .null, .null, .null, .null, .null, .null, .int 0] 157))), (157, (.inl (po_dup 158))), (158, (.inl (po_aload 0 159))), (159, (.inl (po_get 10 3 162))), (162, (.inl (po_aload 0 163))), (163, (.inl (po_get 10 7 166))), (166, (.inl (po_aload 0 167))), (167, (.inl (po_get 10 9 170))), (170, (.inl (po_ci 50 3 4 173))), (173, (.inl (po_putr 10 10 176))), (176, (.inl (po_aload 0 177))), (177, (.inl (po_new 3 [.null, .null, .null] 180))), (180, (.inl (po_dup 181))), (181, (.inl (po_aload 0 182))), (182, (.inl (po_get 10 3 185))), (185, (.inl (po_ci 61 1 2 188))), (188, (.inl (po_putr 10 11 191))), (191, (.inl (po_aload 0 192))), (192, (.inl (po_new 8 [.null, .null, .null, .null, .null, .null, .null] 195))), (195, (.inl (po_dup 196))), (196, (.inl (po_aload 0 197))), (197, (.inl (po_get 10 7 200))), (200, (.inl (po_aload 0 201))), (201, (.inl (po_get 10 11 204))), (204, (.inl (po_ci 84 2 3 207))), (207, (.inl (po_putr 10 12 210))), (210, (.inr (re_v)))] := pr_aS_c (pr_eI (os_aload_n (q := 0) dX10_init_0)) (pr_aS_c (pr_eI (os_oi dX10_init_1 wd_0 wd_1 wd_2)) (pr_aS_c (pr_eI (os_aload_n (q := 0) dX10_init_4)) (pr_aS_c (pr_eI (os_new dX10_init_5 cf_7 wd_3 wd_4 wd_5 (by decide +kernel))) (pr_aS_c (pr_eI (os_dup dX10_init_8)) (pr_aS_c (pr_eI (os_sipush dX10_init_9 (by decide +kernel))) (pr_aS_c (pr_eI (os_ci dX10_init_12 (k := 78) rfl rfl cal_78 wd_6 wd_7 rfl rfl)) (pr_aS_c (pr_eI (os_putrF (kf := 0) dX10_init_15 cf_10 (by decide) wd_8 rfl rfl rfl (Or.inl ⟨_, rfl⟩))) (pr_aS_c (pr_eI (os_aload_n (q := 0) dX10_init_18)) (pr_aS_c (pr_eI (os_new dX10_init_19 cf_7 wd_3 wd_4 wd_5 (by decide +kernel))) (pr_aS_c (pr_eI (os_dup dX10_init_22)) (pr_aS_c (pr_eI (os_bipush dX10_init_23 (by decide +kernel))) (pr_aS_c (pr_eI (os_ci dX10_init_25 (k := 78) rfl rfl cal_78 wd_6 wd_7 rfl rfl)) (pr_aS_c (pr_eI (os_putrF (kf := 1) dX10_init_28 cf_10 (by decide) wd_9 rfl rfl rfl (Or.inl ⟨_, rfl⟩))) (pr_aS_c (pr_eI (os_aload_n (q := 0) dX10_init_31)) (pr_aS_c (pr_eI (os_new dX10_init_32 cf_7 wd_3 wd_4 wd_5 (by decide +kernel))) (pr_aS_c (pr_eI (os_dup dX10_init_35)) (pr_aS_c (pr_eI (os_bipush dX10_init_36 (by decide +kernel))) (pr_aS_c (pr_eI (os_ci dX10_init_38 (k := 78) rfl rfl cal_78 wd_6 wd_7 rfl rfl)) (pr_aS_c (pr_eI (os_putrF (kf := 2) dX10_init_41 cf_10 (by decide) wd_10 rfl rfl rfl (Or.inl ⟨_, rfl⟩))) (pr_aS_c (pr_eI (os_aload_n (q := 0) dX10_init_44)) (pr_aS_c (pr_eI (os_new dX10_init_45 cf_2 wd_11 wd_12 wd_13 (by decide +kernel))) (pr_aS_c (pr_eI (os_dup dX10_init_48)) (pr_aS_c (pr_eI (os_ci dX10_init_49 (k := 54) rfl rfl cal_54 wd_14 wd_15 rfl rfl)) (pr_aS_c (pr_eI (os_putrF (kf := 3) dX10_init_52 cf_10 (by decide) wd_16 rfl rfl rfl (Or.inl ⟨_, rfl⟩))) (pr_aS_c (pr_eI (os_aload_n (q := 0) dX10_init_55)) (pr_aS_c (pr_eI (os_new dX10_init_56 cf_2 wd_11 wd_12 wd_13 (by decide +kernel))) (pr_aS_c (pr_eI (os_dup dX10_init_59)) (pr_aS_c (pr_eI (os_ci dX10_init_60 (k := 54) rfl rfl cal_54 wd_14 wd_15 rfl rfl)) (pr_aS_c (pr_eI (os_putrF (kf := 4) dX10_init_63 cf_10 (by decide) wd_17 rfl rfl rfl (Or.inl ⟨_, rfl⟩))) (pr_aS_c (pr_eI (os_aload_n (q := 0) dX10_init_66)) (pr_aS_c (pr_eI (os_new dX10_init_67 cf_5 wd_18 wd_19 wd_20 (by decide +kernel))) (pr_aS_c (pr_eI (os_dup dX10_init_70)) (pr_aS_c (pr_eI (os_aload_n (q := 0) dX10_init_71)) (pr_aS_c (pr_eI (os_get (kf := 0) dX10_init_72 cf_10 (by decide) wd_8)) (pr_aS_c (pr_eI (os_aload_n (q := 0) dX10_init_75)) (pr_aS_c (pr_eI (os_get (kf := 3) dX10_init_76 cf_10 (by decide) wd_16)) (pr_aS_c (pr_eI (os_ci dX10_init_79 (k := 63) rfl rfl cal_63 wd_21 wd_22 rfl rfl)) (pr_aS_c (pr_eI (os_putrF (kf := 5) dX10_init_82 cf_10 (by decide) wd_23 rfl rfl rfl (Or.inl ⟨_, rfl⟩))) (pr_aS_c (pr_eI (os_aload_n (q := 0) dX10_init_85)) (pr_aS_c (pr_eI (os_new dX10_init_86 cf_9 wd_24 wd_25 wd_26 (by decide +kernel))) (pr_aS_c (pr_eI (os_dup dX10_init_89)) (pr_aS_c (pr_eI (os_aload_n (q := 0) dX10_init_90)) (pr_aS_c (pr_eI (os_get (kf := 3) dX10_init_91 cf_10 (by decide) wd_16)) (pr_aS_c (pr_eI (os_ci dX10_init_94 (k := 88) rfl rfl cal_88 wd_27 wd_28 rfl rfl)) (pr_aS_c (pr_eI (os_putrF (kf := 6) dX10_init_97 cf_10 (by decide) wd_29 rfl rfl rfl (Or.inl ⟨_, rfl⟩))) (pr_aS_c (pr_eI (os_aload_n (q := 0) dX10_init_100)) (pr_aS_c (pr_eI (os_new dX10_init_101 cf_0 wd_30 wd_31 wd_32 (by decide +kernel))) (pr_aS_c (pr_eI (os_dup dX10_init_104)) (pr_aS_c (pr_eI (os_aload_n (q := 0) dX10_init_105)) (pr_aS_c (pr_eI (os_get (kf := 3) dX10_init_106 cf_10 (by decide) wd_16)) (pr_aS_c (pr_eI (os_ci dX10_init_109 (k := 47) rfl rfl cal_47 wd_33 wd_34 rfl rfl)) (pr_aS_c (pr_eI (os_putrF (kf := 7) dX10_init_112 cf_10 (by decide) wd_35 rfl rfl rfl (Or.inl ⟨_, rfl⟩))) (pr_aS_c (pr_eI (os_aload_n (q := 0) dX10_init_115)) (pr_aS_c (pr_eI (os_new dX10_init_116 cf_4 wd_36 wd_37 wd_38 (by decide +kernel))) (pr_aS_c (pr_eI (os_dup dX10_init_119)) (pr_aS_c (pr_eI (os_aload_n (q := 0) dX10_init_120)) (pr_aS_c (pr_eI (os_get (kf := 7) dX10_init_121 cf_10 (by decide) wd_35)) (pr_aS_c (pr_eI (os_aload_n (q := 0) dX10_init_124)) (pr_aS_c (pr_eI (os_get (kf := 6) dX10_init_125 cf_10 (by decide) wd_29)) (pr_aS_c (pr_eI (os_ci dX10_init_128 (k := 62) rfl rfl cal_62 wd_39 wd_40 rfl rfl)) (pr_aS_c (pr_eI (os_putrF (kf := 8) dX10_init_131 cf_10 (by decide) wd_41 rfl rfl rfl (Or.inl ⟨_, rfl⟩))) (pr_aS_c (pr_eI (os_aload_n (q := 0) dX10_init_134)) (pr_aS_c (pr_eI (os_new dX10_init_135 cf_6 wd_42 wd_43 wd_44 (by decide +kernel))) (pr_aS_c (pr_eI (os_dup dX10_init_138)) (pr_aS_c (pr_eI (os_aload_n (q := 0) dX10_init_139)) (pr_aS_c (pr_eI (os_get (kf := 3) dX10_init_140 cf_10 (by decide) wd_16)) (pr_aS_c (pr_eI (os_aload_n (q := 0) dX10_init_143)) (pr_aS_c (pr_eI (os_get (kf := 7) dX10_init_144 cf_10 (by decide) wd_35)) (pr_aS_c (pr_eI (os_ci dX10_init_147 (k := 74) rfl rfl cal_74 wd_45 wd_46 rfl rfl)) (pr_aS_c (pr_eI (os_putrF (kf := 9) dX10_init_150 cf_10 (by decide) wd_47 rfl rfl rfl (Or.inl ⟨_, rfl⟩))) (pr_aS_c (pr_eI (os_aload_n (q := 0) dX10_init_153)) (pr_aS_c (pr_eI (os_new dX10_init_154 cf_1 wd_48 wd_49 wd_50 (by decide +kernel))) (pr_aS_c (pr_eI (os_dup dX10_init_157)) (pr_aS_c (pr_eI (os_aload_n (q := 0) dX10_init_158)) (pr_aS_c (pr_eI (os_get (kf := 3) dX10_init_159 cf_10 (by decide) wd_16)) (pr_aS_c (pr_eI (os_aload_n (q := 0) dX10_init_162)) (pr_aS_c (pr_eI (os_get (kf := 7) dX10_init_163 cf_10 (by decide) wd_35)) (pr_aS_c (pr_eI (os_aload_n (q := 0) dX10_init_166)) (pr_aS_c (pr_eI (os_get (kf := 9) dX10_init_167 cf_10 (by decide) wd_47)) (pr_aS_c (pr_eI (os_ci dX10_init_170 (k := 50) rfl rfl cal_50 wd_51 wd_52 rfl rfl)) (pr_aS_c (pr_eI (os_putrF (kf := 10) dX10_init_173 cf_10 (by decide) wd_53 rfl rfl rfl (Or.inl ⟨_, rfl⟩))) (pr_aS_c (pr_eI (os_aload_n (q := 0) dX10_init_176)) (pr_aS_c (pr_eI (os_new dX10_init_177 cf_3 wd_54 wd_55 wd_56 (by decide +kernel))) (pr_aS_c (pr_eI (os_dup dX10_init_180)) (pr_aS_c (pr_eI (os_aload_n (q := 0) dX10_init_181)) (pr_aS_c (pr_eI (os_get (kf := 3) dX10_init_182 cf_10 (by decide) wd_16)) (pr_aS_c (pr_eI (os_ci dX10_init_185 (k := 61) rfl rfl cal_61 wd_57 wd_58 rfl rfl)) (pr_aS_c (pr_eI (os_putrF (kf := 11) dX10_init_188 cf_10 (by decide) wd_59 rfl rfl rfl (Or.inl ⟨_, rfl⟩))) (pr_aS_c (pr_eI (os_aload_n (q := 0) dX10_init_191)) (pr_aS_c (pr_eI (os_new dX10_init_192 cf_8 wd_60 wd_61 wd_62 (by decide +kernel))) (pr_aS_c (pr_eI (os_dup dX10_init_195)) (pr_aS_c (pr_eI (os_aload_n (q := 0) dX10_init_196)) (pr_aS_c (pr_eI (os_get (kf := 7) dX10_init_197 cf_10 (by decide) wd_35)) (pr_aS_c (pr_eI (os_aload_n (q := 0) dX10_init_200)) (pr_aS_c (pr_eI (os_get (kf := 11) dX10_init_201 cf_10 (by decide) wd_59)) (pr_aS_c (pr_eI (os_ci dX10_init_204 (k := 84) rfl rfl cal_84 wd_63 wd_64 rfl rfl)) (pr_aS_c (pr_eI (os_putrF (kf := 12) dX10_init_207 cf_10 (by decide) wd_65 rfl rfl rfl (Or.inl ⟨_, rfl⟩))) (pr_aS_c (pr_eR (rs_v dX10_init_210 rfl)) trivial))))))))))))))))))))))))))))))))))))))))))))))))))))))))))))))))))))))))))))))))))))))))))))))))))
theorem dX10_kinds_0 : decode cX10_kinds 0 = .ok (.aload_n 0, 1) := by decide +kernel
theorem dX10_kinds_1 : decode cX10_kinds 1 = .ok (.getfield 39, 3) := by decide +kernel
theorem dX10_kinds_4 : decode cX10_kinds 4 = .ok (.aload_n 0, 1) := by decide +kernel
theorem dX10_kinds_5 : decode cX10_kinds 5 = .ok (.getfield 31, 3) := by decide +kernel
theorem dX10_kinds_8 : decode cX10_kinds 8 = .ok (.invokevirtual 109, 3) := by decide +kernel
theorem dX10_kinds_11 : decode cX10_kinds 11 = .ok (.istore_n 1, 1) := by decide +kernel
theorem dX10_kinds_12 : decode cX10_kinds 12 = .ok (.aload_n 0, 1) := by decide +kernel
theorem dX10_kinds_13 : decode cX10_kinds 13 = .ok (.invokevirtual 113, 3) := by decide +kernel
theorem dX10_kinds_16 : decode cX10_kinds 16 = .ok (.iload_n 1, 1) := by decide +kernel
theorem dX10_kinds_17 : decode cX10_kinds 17 = .ok (.ifCond .ne 14, 3) := by decide +kernel
theorem dX10_kinds_31 : decode cX10_kinds 31 = .ok (.aload_n 0, 1) := by decide +kernel
theorem dX10_kinds_32 : decode cX10_kinds 32 = .ok (.getfield 27, 3) := by decide +kernel
theorem dX10_kinds_35 : decode cX10_kinds 35 = .ok (.aload_n 0, 1) := by decide +kernel
theorem dX10_kinds_36 : decode cX10_kinds 36 = .ok (.getfield 31, 3) := by decide +kernel
theorem dX10_kinds_39 : decode cX10_kinds 39 = .ok (.invokevirtual 119, 3) := by decide +kernel
theorem dX10_kinds_42 : decode cX10_kinds 42 = .ok (.aload_n 0, 1) := by decide +kernel
theorem dX10_kinds_43 : decode cX10_kinds 43 = .ok (.invokevirtual 122, 3) := by decide +kernel
theorem dX10_kinds_46 : decode cX10_kinds 46 = .ok (.aload_n 0, 1) := by decide +kernel
theorem dX10_kinds_47 : decode cX10_kinds 47 = .ok (.getfield 27, 3) := by decide +kernel
theorem dX10_kinds_50 : decode cX10_kinds 50 = .ok (.invokevirtual 125, 3) := by decide +kernel
theorem dX10_kinds_53 : decode cX10_kinds 53 = .ok (.ireturn, 1) := by decide +kernel
/-- InferResolve.kinds()I -/
noncomputable def qc_1 : pr_Co := [(0, (.inl (po_aload 0 1))), (1, (.inl (po_get 10 5 4))), (4, (.inl (po_aload 0 5))), (5, (.inl (po_get 10 4 8))), (8, (.inl (po_cv 66 1 5 3 11))), (11, (.inl (po_istore 1 12))), (12, (.inl (po_aload 0 13))), (13, (.inl (po_cv 12 0 10 1 16))), (16, (.inl (po_iload 1 17))), (17, (.inl (po_if1 (fun x => !decide (x = 0)) 31 20))), (31, (.inl (po_aload 0 32))), (32, (.inl (po_get 10 3 35))), (35, (.inl (po_aload 0 36))), (36, (.inl (po_get 10 4 39))), (39, (.inl (po_cv 58 1 2 2 42))), (42, (.inl (po_aload 0 43))), (43, (.inl (po_cv 13 0 10 1 46))), (46, (.inl (po_aload 0 47))), (47, (.inl (po_get 10 3 50))), (50, (.inl (po_cv 56 0 2 1 53))), (53, (.inr (re_i)))]
set_option maxRecDepth 100000 in
set_option maxHeartbeats 4000000 in
theorem qs_1 : pr_aS pr_ms m_1 [(0, (.inl (po_aload 0 1))), (1, (.inl (po_get 10 5 4))), (4, (.inl (po_aload 0 5))), (5, (.inl (po_get 10 4 8))), (8, (.inl (po_cv 66 1 5 3 11))), (11, (.inl (po_istore 1 12))), (12, (.inl (po_aload 0 13))), (13, (.inl (po_cv 12 0 10 1 16))), (16, (.inl (po_iload 1 17))), (17, (.inl (po_if1 (fun x => !decide (x = 0)) 31 20))), (31, (.inl (po_aload 0 32))), (32, (.inl (po_get 10 3 35))), (35, (.inl (po_aload 0 36))), (36, (.inl (po_get 10 4 39))), (39, (.inl (po_cv 58 1 2 2 42))), (42, (.inl (po_aload 0 43))), (43, (.inl (po_cv 13 0 10 1 46))), (46, (.inl (po_aload 0 47))), (47, (.inl (po_get 10 3 50))), (50, (.inl (po_cv 56 0 2 1 53))), (53, (.inr (re_i)))] := pr_aS_c (pr_eI (os_aload_n (q := 0) dX10_kinds_0)) (pr_aS_c (pr_eI (os_get (kf := 5) dX10_kinds_1 cf_10 (by decide) wd_23)) (pr_aS_c (pr_eI (os_aload_n (q := 0) dX10_kinds_4)) (pr_aS_c (pr_eI (os_get (kf := 4) dX10_kinds_5 cf_10 (by decide) wd_17)) (pr_aS_c (pr_eI (os_cv dX10_kinds_8 (k := 66) rfl rfl cal_66 wd_66 wd_68 wd_67 rfl)) (pr_aS_c (pr_eI (os_istore_n (q := 1) dX10_kinds_11 (by decide))) (pr_aS_c (pr_eI (os_aload_n (q := 0) dX10_kinds_12)) (pr_aS_c (pr_eI (os_cv dX10_kinds_13 (k := 12) rfl rfl cal_12 wd_69 wd_71 wd_70 rfl)) (pr_aS_c (pr_eI (os_iload_n (q := 1) dX10_kinds_16)) (pr_aS_c (pr_eI (os_if_ne dX10_kinds_17 (by decide))) (pr_aS_c (pr_eI (os_aload_n (q := 0) dX10_kinds_31)) (pr_aS_c (pr_eI (os_get (kf := 3) dX10_kinds_32 cf_10 (by decide) wd_16)) (pr_aS_c (pr_eI (os_aload_n (q := 0) dX10_kinds_35)) (pr_aS_c (pr_eI (os_get (kf := 4) dX10_kinds_36 cf_10 (by decide) wd_17)) (pr_aS_c (pr_eI (os_cv dX10_kinds_39 (k := 58) rfl rfl cal_58 wd_72 wd_74 wd_73 rfl)) (pr_aS_c (pr_eI (os_aload_n (q := 0) dX10_kinds_42)) (pr_aS_c (pr_eI (os_cv dX10_kinds_43 (k := 13) rfl rfl cal_13 wd_75 wd_77 wd_76 rfl)) (pr_aS_c (pr_eI (os_aload_n (q := 0) dX10_kinds_46)) (pr_aS_c (pr_eI (os_get (kf := 3) dX10_kinds_47 cf_10 (by decide) wd_16)) (pr_aS_c (pr_eI (os_cv dX10_kinds_50 (k := 56) rfl rfl cal_56 wd_78 wd_80 wd_79 rfl)) (pr_aS_c (pr_eR (rs_i dX10_kinds_53 rfl)) trivial))))))))))))))))))))
theorem dX10_fault_0 : decode cX10_fault 0 = .ok (.aload_n 0, 1) := by decide +kernel
theorem dX10_fault_1 : decode cX10_fault 1 = .ok (.getfield 128, 3) := by decide +kernel
theorem dX10_fault_4 : decode cX10_fault 4 = .ok (.ireturn, 1) := by decide +kernel
/-- InferResolve.fault()I -/
noncomputable def qc_2 : pr_Co := [(0, (.inl (po_aload 0 1))), (1, (.inl (po_get 10 16 4))), (4, (.inr (re_i)))]
set_option maxRecDepth 100000 in
set_option maxHeartbeats 4000000 in
theorem qs_2 : pr_aS pr_ms m_2 [(0, (.inl (po_aload 0 1))), (1, (.inl (po_get 10 16 4))), (4, (.inr (re_i)))] := pr_aS_c (pr_eI (os_aload_n (q := 0) dX10_fault_0)) (pr_aS_c (pr_eI (os_get (kf := 16) dX10_fault_1 cf_10 (by decide) wd_81)) (pr_aS_c (pr_eR (rs_i dX10_fault_4 rfl)) trivial))
theorem dX10_variable_0 : decode cX10_variable 0 = .ok (.aload_n 0, 1) := by decide +kernel
theorem dX10_variable_1 : decode cX10_variable 1 = .ok (.getfield 132, 3) := by decide +kernel
theorem dX10_variable_4 : decode cX10_variable 4 = .ok (.bipush 6, 2) := by decide +kernel
theorem dX10_variable_6 : decode cX10_variable 6 = .ok (.if_icmp .lt 6, 3) := by decide +kernel
theorem dX10_variable_12 : decode cX10_variable 12 = .ok (.iload_n 1, 1) := by decide +kernel
theorem dX10_variable_13 : decode cX10_variable 13 = .ok (.ifCond .eq 18, 3) := by decide +kernel
theorem dX10_variable_16 : decode cX10_variable 16 = .ok (.aload_n 0, 1) := by decide +kernel
theorem dX10_variable_17 : decode cX10_variable 17 = .ok (.dup, 1) := by decide +kernel
theorem dX10_variable_18 : decode cX10_variable 18 = .ok (.getfield 135, 3) := by decide +kernel
theorem dX10_variable_21 : decode cX10_variable 21 = .ok (.iconst 1, 1) := by decide +kernel
theorem dX10_variable_22 : decode cX10_variable 22 = .ok (.aload_n 0, 1) := by decide +kernel
theorem dX10_variable_23 : decode cX10_variable 23 = .ok (.getfield 132, 3) := by decide +kernel
theorem dX10_variable_26 : decode cX10_variable 26 = .ok (.ishl, 1) := by decide +kernel
theorem dX10_variable_27 : decode cX10_variable 27 = .ok (.ior, 1) := by decide +kernel
theorem dX10_variable_28 : decode cX10_variable 28 = .ok (.putfield 135, 3) := by decide +kernel
theorem dX10_variable_31 : decode cX10_variable 31 = .ok (.aload_n 0, 1) := by decide +kernel
theorem dX10_variable_32 : decode cX10_variable 32 = .ok (.dup, 1) := by decide +kernel
theorem dX10_variable_33 : decode cX10_variable 33 = .ok (.getfield 132, 3) := by decide +kernel
theorem dX10_variable_36 : decode cX10_variable 36 = .ok (.iconst 1, 1) := by decide +kernel
theorem dX10_variable_37 : decode cX10_variable 37 = .ok (.iadd, 1) := by decide +kernel
theorem dX10_variable_38 : decode cX10_variable 38 = .ok (.putfield 132, 3) := by decide +kernel
theorem dX10_variable_41 : decode cX10_variable 41 = .ok (.aload_n 0, 1) := by decide +kernel
theorem dX10_variable_42 : decode cX10_variable 42 = .ok (.getfield 132, 3) := by decide +kernel
theorem dX10_variable_45 : decode cX10_variable 45 = .ok (.iconst 1, 1) := by decide +kernel
theorem dX10_variable_46 : decode cX10_variable 46 = .ok (.isub, 1) := by decide +kernel
theorem dX10_variable_47 : decode cX10_variable 47 = .ok (.ireturn, 1) := by decide +kernel
/-- InferResolve.variable(Z)I -/
noncomputable def qc_3 : pr_Co := [(0, (.inl (po_aload 0 1))), (1, (.inl (po_get 10 13 4))), (4, (.inl (po_push 6 6))), (6, (.inl (po_if2 (fun x y => decide (x < y)) 12 9))), (12, (.inl (po_iload 1 13))), (13, (.inl (po_if1 (fun x => decide (x = 0)) 31 16))), (16, (.inl (po_aload 0 17))), (17, (.inl (po_dup 18))), (18, (.inl (po_get 10 14 21))), (21, (.inl (po_push 1 22))), (22, (.inl (po_aload 0 23))), (23, (.inl (po_get 10 13 26))), (26, (.inl (po_i2 (fun x y => x <<< (y &&& 31)) 27))), (27, (.inl (po_i2 (fun x y => x ||| y) 28))), (28, (.inl (po_puti 10 14 31))), (31, (.inl (po_aload 0 32))), (32, (.inl (po_dup 33))), (33, (.inl (po_get 10 13 36))), (36, (.inl (po_push 1 37))), (37, (.inl (po_i2 (fun x y => x + y) 38))), (38, (.inl (po_puti 10 13 41))), (41, (.inl (po_aload 0 42))), (42, (.inl (po_get 10 13 45))), (45, (.inl (po_push 1 46))), (46, (.inl (po_i2 (fun x y => x - y) 47))), (47, (.inr (re_i)))]
set_option maxRecDepth 100000 in
set_option maxHeartbeats 4000000 in
theorem qs_3 : pr_aS pr_ms m_3 [(0, (.inl (po_aload 0 1))), (1, (.inl (po_get 10 13 4))), (4, (.inl (po_push 6 6))), (6, (.inl (po_if2 (fun x y => decide (x < y)) 12 9))), (12, (.inl (po_iload 1 13))), (13, (.inl (po_if1 (fun x => decide (x = 0)) 31 16))), (16, (.inl (po_aload 0 17))), (17, (.inl (po_dup 18))), (18, (.inl (po_get 10 14 21))), (21, (.inl (po_push 1 22))), (22, (.inl (po_aload 0 23))), (23, (.inl (po_get 10 13 26))), (26, (.inl (po_i2 (fun x y => x <<< (y &&& 31)) 27))), (27, (.inl (po_i2 (fun x y => x ||| y) 28))), (28, (.inl (po_puti 10 14 31))), (31, (.inl (po_aload 0 32))), (32, (.inl (po_dup 33))), (33, (.inl (po_get 10 13 36))), (36, (.inl (po_push 1 37))), (37, (.inl (po_i2 (fun x y => x + y) 38))), (38, (.inl (po_puti 10 13 41))), (41, (.inl (po_aload 0 42))), (42, (.inl (po_get 10 13 45))), (45, (.inl (po_push 1 46))), (46, (.inl (po_i2 (fun x y => x - y) 47))), (47, (.inr (re_i)))] := pr_aS_c (pr_eI (os_aload_n (q := 0) dX10_variable_0)) (pr_aS_c (pr_eI (os_get (kf := 13) dX10_variable_1 cf_10 (by decide) wd_82)) (pr_aS_c (pr_eI (os_bipush dX10_variable_4 (by decide +kernel))) (pr_aS_c (pr_eI (os_icmp_lt dX10_variable_6 (by decide))) (pr_aS_c (pr_eI (os_iload_n (q := 1) dX10_variable_12)) (pr_aS_c (pr_eI (os_if_eq dX10_variable_13 (by decide))) (pr_aS_c (pr_eI (os_aload_n (q := 0) dX10_variable_16)) (pr_aS_c (pr_eI (os_dup dX10_variable_17)) (pr_aS_c (pr_eI (os_get (kf := 14) dX10_variable_18 cf_10 (by decide) wd_83)) (pr_aS_c (pr_eI (os_iconst dX10_variable_21 (by decide +kernel))) (pr_aS_c (pr_eI (os_aload_n (q := 0) dX10_variable_22)) (pr_aS_c (pr_eI (os_get (kf := 13) dX10_variable_23 cf_10 (by decide) wd_82)) (pr_aS_c (pr_eI (os_ishl dX10_variable_26)) (pr_aS_c (pr_eI (os_ior dX10_variable_27)) (pr_aS_c (pr_eI (os_puti (kf := 14) dX10_variable_28 cf_10 (by decide) wd_83 rfl rfl)) (pr_aS_c (pr_eI (os_aload_n (q := 0) dX10_variable_31)) (pr_aS_c (pr_eI (os_dup dX10_variable_32)) (pr_aS_c (pr_eI (os_get (kf := 13) dX10_variable_33 cf_10 (by decide) wd_82)) (pr_aS_c (pr_eI (os_iconst dX10_variable_36 (by decide +kernel))) (pr_aS_c (pr_eI (os_iadd dX10_variable_37)) (pr_aS_c (pr_eI (os_puti (kf := 13) dX10_variable_38 cf_10 (by decide) wd_82 rfl rfl)) (pr_aS_c (pr_eI (os_aload_n (q := 0) dX10_variable_41)) (pr_aS_c (pr_eI (os_get (kf := 13) dX10_variable_42 cf_10 (by decide) wd_82)) (pr_aS_c (pr_eI (os_iconst dX10_variable_45 (by decide +kernel))) (pr_aS_c (pr_eI (os_isub dX10_variable_46)) (pr_aS_c (pr_eR (rs_i dX10_variable_47 rfl)) trivial)))))))))))))))))))))))))
theorem dX10_fresh_0 : decode cX10_fresh 0 = .ok (.aload_n 0, 1) := by decide +kernel
theorem dX10_fresh_1 : decode cX10_fresh 1 = .ok (.getfield 55, 3) := by decide +kernel
theorem dX10_fresh_4 : decode cX10_fresh 4 = .ok (.invokevirtual 138, 3) := by decide +kernel
theorem dX10_fresh_7 : decode cX10_fresh 7 = .ok (.istore_n 1, 1) := by decide +kernel
theorem dX10_fresh_8 : decode cX10_fresh 8 = .ok (.aload_n 0, 1) := by decide +kernel
theorem dX10_fresh_9 : decode cX10_fresh 9 = .ok (.invokevirtual 122, 3) := by decide +kernel
theorem dX10_fresh_12 : decode cX10_fresh 12 = .ok (.iload_n 1, 1) := by decide +kernel
theorem dX10_fresh_13 : decode cX10_fresh 13 = .ok (.ireturn, 1) := by decide +kernel
/-- InferResolve.fresh()I -/
noncomputable def qc_4 : pr_Co := [(0, (.inl (po_aload 0 1))), (1, (.inl (po_get 10 7 4))), (4, (.inl (po_cv 48 0 0 1 7))), (7, (.inl (po_istore 1 8))), (8, (.inl (po_aload 0 9))), (9, (.inl (po_cv 13 0 10 1 12))), (12, (.inl (po_iload 1 13))), (13, (.inr (re_i)))]
set_option maxRecDepth 100000 in
set_option maxHeartbeats 4000000 in
theorem qs_4 : pr_aS pr_ms m_4 [(0, (.inl (po_aload 0 1))), (1, (.inl (po_get 10 7 4))), (4, (.inl (po_cv 48 0 0 1 7))), (7, (.inl (po_istore 1 8))), (8, (.inl (po_aload 0 9))), (9, (.inl (po_cv 13 0 10 1 12))), (12, (.inl (po_iload 1 13))), (13, (.inr (re_i)))] := pr_aS_c (pr_eI (os_aload_n (q := 0) dX10_fresh_0)) (pr_aS_c (pr_eI (os_get (kf := 7) dX10_fresh_1 cf_10 (by decide) wd_35)) (pr_aS_c (pr_eI (os_cv dX10_fresh_4 (k := 48) rfl rfl cal_48 wd_84 wd_86 wd_85 rfl)) (pr_aS_c (pr_eI (os_istore_n (q := 1) dX10_fresh_7 (by decide))) (pr_aS_c (pr_eI (os_aload_n (q := 0) dX10_fresh_8)) (pr_aS_c (pr_eI (os_cv dX10_fresh_9 (k := 13) rfl rfl cal_13 wd_75 wd_77 wd_76 rfl)) (pr_aS_c (pr_eI (os_iload_n (q := 1) dX10_fresh_12)) (pr_aS_c (pr_eR (rs_i dX10_fresh_13 rfl)) trivial)))))))
theorem dX10_bound_0 : decode cX10_bound 0 = .ok (.aload_n 0, 1) := by decide +kernel
theorem dX10_bound_1 : decode cX10_bound 1 = .ok (.getfield 139, 3) := by decide +kernel
theorem dX10_bound_4 : decode cX10_bound 4 = .ok (.ifCond .ne 15, 3) := by decide +kernel
theorem dX10_bound_7 : decode cX10_bound 7 = .ok (.aload_n 0, 1) := by decide +kernel
theorem dX10_bound_8 : decode cX10_bound 8 = .ok (.getfield 55, 3) := by decide +kernel
theorem dX10_bound_11 : decode cX10_bound 11 = .ok (.invokevirtual 138, 3) := by decide +kernel
theorem dX10_bound_14 : decode cX10_bound 14 = .ok (.bipush 24, 2) := by decide +kernel
theorem dX10_bound_16 : decode cX10_bound 16 = .ok (.if_icmp .lt 6, 3) := by decide +kernel
theorem dX10_bound_22 : decode cX10_bound 22 = .ok (.aload_n 0, 1) := by decide +kernel
theorem dX10_bound_23 : decode cX10_bound 23 = .ok (.getfield 39, 3) := by decide +kernel
theorem dX10_bound_26 : decode cX10_bound 26 = .ok (.aload_n 0, 1) := by decide +kernel
theorem dX10_bound_27 : decode cX10_bound 27 = .ok (.getfield 27, 3) := by decide +kernel
theorem dX10_bound_30 : decode cX10_bound 30 = .ok (.aload_n 0, 1) := by decide +kernel
theorem dX10_bound_31 : decode cX10_bound 31 = .ok (.getfield 132, 3) := by decide +kernel
theorem dX10_bound_34 : decode cX10_bound 34 = .ok (.iconst 1, 1) := by decide +kernel
theorem dX10_bound_35 : decode cX10_bound 35 = .ok (.invokevirtual 142, 3) := by decide +kernel
theorem dX10_bound_38 : decode cX10_bound 38 = .ok (.istore_n 1, 1) := by decide +kernel
theorem dX10_bound_39 : decode cX10_bound 39 = .ok (.aload_n 0, 1) := by decide +kernel
theorem dX10_bound_40 : decode cX10_bound 40 = .ok (.invokevirtual 113, 3) := by decide +kernel
theorem dX10_bound_43 : decode cX10_bound 43 = .ok (.iload_n 1, 1) := by decide +kernel
theorem dX10_bound_44 : decode cX10_bound 44 = .ok (.ifCond .ne 14, 3) := by decide +kernel
theorem dX10_bound_47 : decode cX10_bound 47 = .ok (.bipush (-10), 2) := by decide +kernel
theorem dX10_bound_49 : decode cX10_bound 49 = .ok (.aload_n 0, 1) := by decide +kernel
theorem dX10_bound_50 : decode cX10_bound 50 = .ok (.getfield 39, 3) := by decide +kernel
theorem dX10_bound_53 : decode cX10_bound 53 = .ok (.invokevirtual 116, 3) := by decide +kernel
theorem dX10_bound_56 : decode cX10_bound 56 = .ok (.isub, 1) := by decide +kernel
theorem dX10_bound_57 : decode cX10_bound 57 = .ok (.ireturn, 1) := by decide +kernel
/-- InferResolve.bound()I -/
noncomputable def qc_5 : pr_Co := [(0, (.inl (po_aload 0 1))), (1, (.inl (po_get 10 15 4))), (4, (.inl (po_if1 (fun x => !decide (x = 0)) 19 7))), (7, (.inl (po_aload 0 8))), (8, (.inl (po_get 10 7 11))), (11, (.inl (po_cv 48 0 0 1 14))), (14, (.inl (po_push 24 16))), (16, (.inl (po_if2 (fun x y => decide (x < y)) 22 19))), (22, (.inl (po_aload 0 23))), (23, (.inl (po_get 10 5 26))), (26, (.inl (po_aload 0 27))), (27, (.inl (po_get 10 3 30))), (30, (.inl (po_aload 0 31))), (31, (.inl (po_get 10 13 34))), (34, (.inl (po_push 1 35))), (35, (.inl (po_cv 67 3 5 4 38))), (38, (.inl (po_istore 1 39))), (39, (.inl (po_aload 0 40))), (40, (.inl (po_cv 12 0 10 1 43))), (43, (.inl (po_iload 1 44))), (44, (.inl (po_if1 (fun x => !decide (x = 0)) 58 47))), (47, (.inl (po_push (-10) 49))), (49, (.inl (po_aload 0 50))), (50, (.inl (po_get 10 5 53))), (53, (.inl (po_cv 65 0 5 1 56))), (56, (.inl (po_i2 (fun x y => x - y) 57))), (57, (.inr (re_i)))]
set_option maxRecDepth 100000 in
set_option maxHeartbeats 4000000 in
theorem qs_5 : pr_aS pr_ms m_5 [(0, (.inl (po_aload 0 1))), (1, (.inl (po_get 10 15 4))), (4, (.inl (po_if1 (fun x => !decide (x = 0)) 19 7))), (7, (.inl (po_aload 0 8))), (8, (.inl (po_get 10 7 11))), (11, (.inl (po_cv 48 0 0 1 14))), (14, (.inl (po_push 24 16))), (16, (.inl (po_if2 (fun x y => decide (x < y)) 22 19))), (22, (.inl (po_aload 0 23))), (23, (.inl (po_get 10 5 26))), (26, (.inl (po_aload 0 27))), (27, (.inl (po_get 10 3 30))), (30, (.inl (po_aload 0 31))), (31, (.inl (po_get 10 13 34))), (34, (.inl (po_push 1 35))), (35, (.inl (po_cv 67 3 5 4 38))), (38, (.inl (po_istore 1 39))), (39, (.inl (po_aload 0 40))), (40, (.inl (po_cv 12 0 10 1 43))), (43, (.inl (po_iload 1 44))), (44, (.inl (po_if1 (fun x => !decide (x = 0)) 58 47))), (47, (.inl (po_push (-10) 49))), (49, (.inl (po_aload 0 50))), (50, (.inl (po_get 10 5 53))), (53, (.inl (po_cv 65 0 5 1 56))), (56, (.inl (po_i2 (fun x y => x - y) 57))), (57, (.inr (re_i)))] := pr_aS_c (pr_eI (os_aload_n (q := 0) dX10_bound_0)) (pr_aS_c (pr_eI (os_get (kf := 15) dX10_bound_1 cf_10 (by decide) wd_87)) (pr_aS_c (pr_eI (os_if_ne dX10_bound_4 (by decide))) (pr_aS_c (pr_eI (os_aload_n (q := 0) dX10_bound_7)) (pr_aS_c (pr_eI (os_get (kf := 7) dX10_bound_8 cf_10 (by decide) wd_35)) (pr_aS_c (pr_eI (os_cv dX10_bound_11 (k := 48) rfl rfl cal_48 wd_84 wd_86 wd_85 rfl)) (pr_aS_c (pr_eI (os_bipush dX10_bound_14 (by decide +kernel))) (pr_aS_c (pr_eI (os_icmp_lt dX10_bound_16 (by decide))) (pr_aS_c (pr_eI (os_aload_n (q := 0) dX10_bound_22)) (pr_aS_c (pr_eI (os_get (kf := 5) dX10_bound_23 cf_10 (by decide) wd_23)) (pr_aS_c (pr_eI (os_aload_n (q := 0) dX10_bound_26)) (pr_aS_c (pr_eI (os_get (kf := 3) dX10_bound_27 cf_10 (by decide) wd_16)) (pr_aS_c (pr_eI (os_aload_n (q := 0) dX10_bound_30)) (pr_aS_c (pr_eI (os_get (kf := 13) dX10_bound_31 cf_10 (by decide) wd_82)) (pr_aS_c (pr_eI (os_iconst dX10_bound_34 (by decide +kernel))) (pr_aS_c (pr_eI (os_cv dX10_bound_35 (k := 67) rfl rfl cal_67 wd_88 wd_90 wd_89 rfl)) (pr_aS_c (pr_eI (os_istore_n (q := 1) dX10_bound_38 (by decide))) (pr_aS_c (pr_eI (os_aload_n (q := 0) dX10_bound_39)) (pr_aS_c (pr_eI (os_cv dX10_bound_40 (k := 12) rfl rfl cal_12 wd_69 wd_71 wd_70 rfl)) (pr_aS_c (pr_eI (os_iload_n (q := 1) dX10_bound_43)) (pr_aS_c (pr_eI (os_if_ne dX10_bound_44 (by decide))) (pr_aS_c (pr_eI (os_bipush dX10_bound_47 (by decide +kernel))) (pr_aS_c (pr_eI (os_aload_n (q := 0) dX10_bound_49)) (pr_aS_c (pr_eI (os_get (kf := 5) dX10_bound_50 cf_10 (by decide) wd_23)) (pr_aS_c (pr_eI (os_cv dX10_bound_53 (k := 65) rfl rfl cal_65 wd_91 wd_93 wd_92 rfl)) (pr_aS_c (pr_eI (os_isub dX10_bound_56)) (pr_aS_c (pr_eR (rs_i dX10_bound_57 rfl)) trivial))))))))))))))))))))))))))
theorem dX10_close_0 : decode cX10_close 0 = .ok (.aload_n 0, 1) := by decide +kernel
theorem dX10_close_1 : decode cX10_close 1 = .ok (.getfield 139, 3) := by decide +kernel
theorem dX10_close_4 : decode cX10_close 4 = .ok (.ifCond .eq 6, 3) := by decide +kernel
theorem dX10_close_10 : decode cX10_close 10 = .ok (.aload_n 0, 1) := by decide +kernel
theorem dX10_close_11 : decode cX10_close 11 = .ok (.aload_n 0, 1) := by decide +kernel
theorem dX10_close_12 : decode cX10_close 12 = .ok (.getfield 82, 3) := by decide +kernel
theorem dX10_close_15 : decode cX10_close 15 = .ok (.aload_n 0, 1) := by decide +kernel
theorem dX10_close_16 : decode cX10_close 16 = .ok (.getfield 132, 3) := by decide +kernel
theorem dX10_close_19 : decode cX10_close 19 = .ok (.iconst 0, 1) := by decide +kernel
theorem dX10_close_20 : decode cX10_close 20 = .ok (.invokevirtual 175, 3) := by decide +kernel
theorem dX10_close_23 : decode cX10_close 23 = .ok (.putfield 139, 3) := by decide +kernel
theorem dX10_close_26 : decode cX10_close 26 = .ok (.aload_n 0, 1) := by decide +kernel
theorem dX10_close_27 : decode cX10_close 27 = .ok (.getfield 139, 3) := by decide +kernel
theorem dX10_close_30 : decode cX10_close 30 = .ok (.ireturn, 1) := by decide +kernel
/-- InferResolve.close()I -/
noncomputable def qc_6 : pr_Co := [(0, (.inl (po_aload 0 1))), (1, (.inl (po_get 10 15 4))), (4, (.inl (po_if1 (fun x => decide (x = 0)) 10 7))), (10, (.inl (po_aload 0 11))), (11, (.inl (po_aload 0 12))), (12, (.inl (po_get 10 10 15))), (15, (.inl (po_aload 0 16))), (16, (.inl (po_get 10 13 19))), (19, (.inl (po_push 0 20))), (20, (.inl (po_cv 53 2 1 5 23))), (23, (.inl (po_puti 10 15 26))), (26, (.inl (po_aload 0 27))), (27, (.inl (po_get 10 15 30))), (30, (.inr (re_i)))]
set_option maxRecDepth 100000 in
set_option maxHeartbeats 4000000 in
theorem qs_6 : pr_aS pr_ms m_6 [(0, (.inl (po_aload 0 1))), (1, (.inl (po_get 10 15 4))), (4, (.inl (po_if1 (fun x => decide (x = 0)) 10 7))), (10, (.inl (po_aload 0 11))), (11, (.inl (po_aload 0 12))), (12, (.inl (po_get 10 10 15))), (15, (.inl (po_aload 0 16))), (16, (.inl (po_get 10 13 19))), (19, (.inl (po_push 0 20))), (20, (.inl (po_cv 53 2 1 5 23))), (23, (.inl (po_puti 10 15 26))), (26, (.inl (po_aload 0 27))), (27, (.inl (po_get 10 15 30))), (30, (.inr (re_i)))] := pr_aS_c (pr_eI (os_aload_n (q := 0) dX10_close_0)) (pr_aS_c (pr_eI (os_get (kf := 15) dX10_close_1 cf_10 (by decide) wd_87)) (pr_aS_c (pr_eI (os_if_eq dX10_close_4 (by decide))) (pr_aS_c (pr_eI (os_aload_n (q := 0) dX10_close_10)) (pr_aS_c (pr_eI (os_aload_n (q := 0) dX10_close_11)) (pr_aS_c (pr_eI (os_get (kf := 10) dX10_close_12 cf_10 (by decide) wd_53)) (pr_aS_c (pr_eI (os_aload_n (q := 0) dX10_close_15)) (pr_aS_c (pr_eI (os_get (kf := 13) dX10_close_16 cf_10 (by decide) wd_82)) (pr_aS_c (pr_eI (os_iconst dX10_close_19 (by decide +kernel))) (pr_aS_c (pr_eI (os_cv dX10_close_20 (k := 53) rfl rfl cal_53 wd_94 wd_96 wd_95 rfl)) (pr_aS_c (pr_eI (os_puti (kf := 15) dX10_close_23 cf_10 (by decide) wd_87 rfl rfl)) (pr_aS_c (pr_eI (os_aload_n (q := 0) dX10_close_26)) (pr_aS_c (pr_eI (os_get (kf := 15) dX10_close_27 cf_10 (by decide) wd_87)) (pr_aS_c (pr_eR (rs_i dX10_close_30 rfl)) trivial)))))))))))))
theorem dX10_told_0 : decode cX10_told 0 = .ok (.iload_n 1, 1) := by decide +kernel
theorem dX10_told_1 : decode cX10_told 1 = .ok (.tableswitch 96 0 6 #[43, 51, 56, 64, 69, 77, 85], 43) := by decide +kernel
theorem dX10_told_44 : decode cX10_told 44 = .ok (.aload_n 0, 1) := by decide +kernel
theorem dX10_told_45 : decode cX10_told 45 = .ok (.getfield 27, 3) := by decide +kernel
theorem dX10_told_48 : decode cX10_told 48 = .ok (.invokevirtual 125, 3) := by decide +kernel
theorem dX10_told_51 : decode cX10_told 51 = .ok (.ireturn, 1) := by decide +kernel
theorem dX10_told_52 : decode cX10_told 52 = .ok (.aload_n 0, 1) := by decide +kernel
theorem dX10_told_53 : decode cX10_told 53 = .ok (.getfield 132, 3) := by decide +kernel
theorem dX10_told_56 : decode cX10_told 56 = .ok (.ireturn, 1) := by decide +kernel
theorem dX10_told_57 : decode cX10_told 57 = .ok (.aload_n 0, 1) := by decide +kernel
theorem dX10_told_58 : decode cX10_told 58 = .ok (.getfield 55, 3) := by decide +kernel
theorem dX10_told_61 : decode cX10_told 61 = .ok (.invokevirtual 138, 3) := by decide +kernel
theorem dX10_told_64 : decode cX10_told 64 = .ok (.ireturn, 1) := by decide +kernel
theorem dX10_told_65 : decode cX10_told 65 = .ok (.aload_n 0, 1) := by decide +kernel
theorem dX10_told_66 : decode cX10_told 66 = .ok (.getfield 139, 3) := by decide +kernel
theorem dX10_told_69 : decode cX10_told 69 = .ok (.ireturn, 1) := by decide +kernel
theorem dX10_told_70 : decode cX10_told 70 = .ok (.aload_n 0, 1) := by decide +kernel
theorem dX10_told_71 : decode cX10_told 71 = .ok (.getfield 82, 3) := by decide +kernel
theorem dX10_told_74 : decode cX10_told 74 = .ok (.invokevirtual 179, 3) := by decide +kernel
theorem dX10_told_77 : decode cX10_told 77 = .ok (.ireturn, 1) := by decide +kernel
theorem dX10_told_78 : decode cX10_told 78 = .ok (.aload_n 0, 1) := by decide +kernel
theorem dX10_told_79 : decode cX10_told 79 = .ok (.getfield 14, 3) := by decide +kernel
theorem dX10_told_82 : decode cX10_told 82 = .ok (.invokevirtual 102, 3) := by decide +kernel
theorem dX10_told_85 : decode cX10_told 85 = .ok (.ireturn, 1) := by decide +kernel
theorem dX10_told_86 : decode cX10_told 86 = .ok (.aload_n 0, 1) := by decide +kernel
theorem dX10_told_87 : decode cX10_told 87 = .ok (.getfield 98, 3) := by decide +kernel
theorem dX10_told_90 : decode cX10_told 90 = .ok (.invokevirtual 182, 3) := by decide +kernel
theorem dX10_told_93 : decode cX10_told 93 = .ok (.invokestatic 185, 3) := by decide +kernel
theorem dX10_told_96 : decode cX10_told 96 = .ok (.ireturn, 1) := by decide +kernel
theorem dX10_told_97 : decode cX10_told 97 = .ok (.bipush (-2), 2) := by decide +kernel
theorem dX10_told_99 : decode cX10_told 99 = .ok (.ireturn, 1) := by decide +kernel
/-- InferResolve.told(I)I -/
noncomputable def qc_7 : pr_Co := [(0, (.inl (po_iload 1 1))), (1, (.inl (po_tab [44, 52, 57, 65, 70, 78, 86]))), (44, (.inl (po_aload 0 45))), (45, (.inl (po_get 10 3 48))), (48, (.inl (po_cv 56 0 2 1 51))), (51, (.inr (re_i))), (52, (.inl (po_aload 0 53))), (53, (.inl (po_get 10 13 56))), (56, (.inr (re_i))), (57, (.inl (po_aload 0 58))), (58, (.inl (po_get 10 7 61))), (61, (.inl (po_cv 48 0 0 1 64))), (64, (.inr (re_i))), (65, (.inl (po_aload 0 66))), (66, (.inl (po_get 10 15 69))), (69, (.inr (re_i))), (70, (.inl (po_aload 0 71))), (71, (.inl (po_get 10 10 74))), (74, (.inl (po_cv 51 0 1 1 77))), (77, (.inr (re_i))), (78, (.inl (po_aload 0 79))), (79, (.inl (po_get 10 0 82))), (82, (.inl (po_cv 79 0 7 1 85))), (85, (.inr (re_i))), (86, (.inl (po_aload 0 87))), (87, (.inl (po_get 10 12 90))), (90, (.inl (po_cv 85 0 8 3 93))), (93, (.inl (po_cs 106 1 1 96))), (96, (.inr (re_i))), (97, (.inl (po_push (-2) 99))), (99, (.inr (re_i)))]
set_option maxRecDepth 100000 in
set_option maxHeartbeats 4000000 in
theorem qs_7 : pr_aS pr_ms m_7 [(0, (.inl (po_iload 1 1))), (1, (.inl (po_tab [44, 52, 57, 65, 70, 78, 86]))), (44, (.inl (po_aload 0 45))), (45, (.inl (po_get 10 3 48))), (48, (.inl (po_cv 56 0 2 1 51))), (51, (.inr (re_i))), (52, (.inl (po_aload 0 53))), (53, (.inl (po_get 10 13 56))), (56, (.inr (re_i))), (57, (.inl (po_aload 0 58))), (58, (.inl (po_get 10 7 61))), (61, (.inl (po_cv 48 0 0 1 64))), (64, (.inr (re_i))), (65, (.inl (po_aload 0 66))), (66, (.inl (po_get 10 15 69))), (69, (.inr (re_i))), (70, (.inl (po_aload 0 71))), (71, (.inl (po_get 10 10 74))), (74, (.inl (po_cv 51 0 1 1 77))), (77, (.inr (re_i))), (78, (.inl (po_aload 0 79))), (79, (.inl (po_get 10 0 82))), (82, (.inl (po_cv 79 0 7 1 85))), (85, (.inr (re_i))), (86, (.inl (po_aload 0 87))), (87, (.inl (po_get 10 12 90))), (90, (.inl (po_cv 85 0 8 3 93))), (93, (.inl (po_cs 106 1 1 96))), (96, (.inr (re_i))), (97, (.inl (po_push (-2) 99))), (99, (.inr (re_i)))] := pr_aS_c (pr_eI (os_iload_n (q := 1) dX10_told_0)) (pr_aS_c (pr_eI (os_tab dX10_told_1 (by decide) (by decide +kernel))) (pr_aS_c (pr_eI (os_aload_n (q := 0) dX10_told_44)) (pr_aS_c (pr_eI (os_get (kf := 3) dX10_told_45 cf_10 (by decide) wd_16)) (pr_aS_c (pr_eI (os_cv dX10_told_48 (k := 56) rfl rfl cal_56 wd_78 wd_80 wd_79 rfl)) (pr_aS_c (pr_eR (rs_i dX10_told_51 rfl)) (pr_aS_c (pr_eI (os_aload_n (q := 0) dX10_told_52)) (pr_aS_c (pr_eI (os_get (kf := 13) dX10_told_53 cf_10 (by decide) wd_82)) (pr_aS_c (pr_eR (rs_i dX10_told_56 rfl)) (pr_aS_c (pr_eI (os_aload_n (q := 0) dX10_told_57)) (pr_aS_c (pr_eI (os_get (kf := 7) dX10_told_58 cf_10 (by decide) wd_35)) (pr_aS_c (pr_eI (os_cv dX10_told_61 (k := 48) rfl rfl cal_48 wd_84 wd_86 wd_85 rfl)) (pr_aS_c (pr_eR (rs_i dX10_told_64 rfl)) (pr_aS_c (pr_eI (os_aload_n (q := 0) dX10_told_65)) (pr_aS_c (pr_eI (os_get (kf := 15) dX10_told_66 cf_10 (by decide) wd_87)) (pr_aS_c (pr_eR (rs_i dX10_told_69 rfl)) (pr_aS_c (pr_eI (os_aload_n (q := 0) dX10_told_70)) (pr_aS_c (pr_eI (os_get (kf := 10) dX10_told_71 cf_10 (by decide) wd_53)) (pr_aS_c (pr_eI (os_cv dX10_told_74 (k := 51) rfl rfl cal_51 wd_97 wd_99 wd_98 rfl)) (pr_aS_c (pr_eR (rs_i dX10_told_77 rfl)) (pr_aS_c (pr_eI (os_aload_n (q := 0) dX10_told_78)) (pr_aS_c (pr_eI (os_get (kf := 0) dX10_told_79 cf_10 (by decide) wd_8)) (pr_aS_c (pr_eI (os_cv dX10_told_82 (k := 79) rfl rfl cal_79 wd_100 wd_102 wd_101 rfl)) (pr_aS_c (pr_eR (rs_i dX10_told_85 rfl)) (pr_aS_c (pr_eI (os_aload_n (q := 0) dX10_told_86)) (pr_aS_c (pr_eI (os_get (kf := 12) dX10_told_87 cf_10 (by decide) wd_65)) (pr_aS_c (pr_eI (os_cv dX10_told_90 (k := 85) rfl rfl cal_85 wd_103 wd_105 wd_104 rfl)) (pr_aS_c (pr_eI (os_cs dX10_told_93 (k := 106) rfl rfl cal_106 wd_106 wd_107)) (pr_aS_c (pr_eR (rs_i dX10_told_96 rfl)) (pr_aS_c (pr_eI (os_bipush dX10_told_97 (by decide +kernel))) (pr_aS_c (pr_eR (rs_i dX10_told_99 rfl)) trivial))))))))))))))))))))))))))))))
theorem dX10_next_0 : decode cX10_next 0 = .ok (.aload_n 0, 1) := by decide +kernel
theorem dX10_next_1 : decode cX10_next 1 = .ok (.getfield 139, 3) := by decide +kernel
theorem dX10_next_4 : decode cX10_next 4 = .ok (.ifCond .eq 8, 3) := by decide +kernel
theorem dX10_next_12 : decode cX10_next 12 = .ok (.aload_n 0, 1) := by decide +kernel
theorem dX10_next_13 : decode cX10_next 13 = .ok (.getfield 98, 3) := by decide +kernel
theorem dX10_next_16 : decode cX10_next 16 = .ok (.aload_n 0, 1) := by decide +kernel
theorem dX10_next_17 : decode cX10_next 17 = .ok (.getfield 132, 3) := by decide +kernel
theorem dX10_next_20 : decode cX10_next 20 = .ok (.invokevirtual 207, 3) := by decide +kernel
theorem dX10_next_23 : decode cX10_next 23 = .ok (.ireturn, 1) := by decide +kernel
/-- InferResolve.next()I -/
noncomputable def qc_8 : pr_Co := [(0, (.inl (po_aload 0 1))), (1, (.inl (po_get 10 15 4))), (4, (.inl (po_if1 (fun x => decide (x = 0)) 12 7))), (12, (.inl (po_aload 0 13))), (13, (.inl (po_get 10 12 16))), (16, (.inl (po_aload 0 17))), (17, (.inl (po_get 10 13 20))), (20, (.inl (po_cv 86 1 8 7 23))), (23, (.inr (re_i)))]
set_option maxRecDepth 100000 in
set_option maxHeartbeats 4000000 in
theorem qs_8 : pr_aS pr_ms m_8 [(0, (.inl (po_aload 0 1))), (1, (.inl (po_get 10 15 4))), (4, (.inl (po_if1 (fun x => decide (x = 0)) 12 7))), (12, (.inl (po_aload 0 13))), (13, (.inl (po_get 10 12 16))), (16, (.inl (po_aload 0 17))), (17, (.inl (po_get 10 13 20))), (20, (.inl (po_cv 86 1 8 7 23))), (23, (.inr (re_i)))] := pr_aS_c (pr_eI (os_aload_n (q := 0) dX10_next_0)) (pr_aS_c (pr_eI (os_get (kf := 15) dX10_next_1 cf_10 (by decide) wd_87)) (pr_aS_c (pr_eI (os_if_eq dX10_next_4 (by decide))) (pr_aS_c (pr_eI (os_aload_n (q := 0) dX10_next_12)) (pr_aS_c (pr_eI (os_get (kf := 12) dX10_next_13 cf_10 (by decide) wd_65)) (pr_aS_c (pr_eI (os_aload_n (q := 0) dX10_next_16)) (pr_aS_c (pr_eI (os_get (kf := 13) dX10_next_17 cf_10 (by decide) wd_82)) (pr_aS_c (pr_eI (os_cv dX10_next_20 (k := 86) rfl rfl cal_86 wd_108 wd_110 wd_109 rfl)) (pr_aS_c (pr_eR (rs_i dX10_next_23 rfl)) trivial))))))))
theorem dX10_step_0 : decode cX10_step 0 = .ok (.aload_n 0, 1) := by decide +kernel
theorem dX10_step_1 : decode cX10_step 1 = .ok (.getfield 139, 3) := by decide +kernel
theorem dX10_step_4 : decode cX10_step 4 = .ok (.ifCond .eq 6, 3) := by decide +kernel
theorem dX10_step_10 : decode cX10_step 10 = .ok (.aload_n 0, 1) := by decide +kernel
theorem dX10_step_11 : decode cX10_step 11 = .ok (.getfield 98, 3) := by decide +kernel
theorem dX10_step_14 : decode cX10_step 14 = .ok (.aload_n 0, 1) := by decide +kernel
theorem dX10_step_15 : decode cX10_step 15 = .ok (.getfield 132, 3) := by decide +kernel
theorem dX10_step_18 : decode cX10_step 18 = .ok (.invokevirtual 207, 3) := by decide +kernel
theorem dX10_step_21 : decode cX10_step 21 = .ok (.istore_n 1, 1) := by decide +kernel
theorem dX10_step_22 : decode cX10_step 22 = .ok (.iload_n 1, 1) := by decide +kernel
theorem dX10_step_23 : decode cX10_step 23 = .ok (.ifCond .ne 5, 3) := by decide +kernel
theorem dX10_step_26 : decode cX10_step 26 = .ok (.iconst 0, 1) := by decide +kernel
theorem dX10_step_27 : decode cX10_step 27 = .ok (.ireturn, 1) := by decide +kernel
/-- InferResolve.step()I -/
noncomputable def qc_9 : pr_Co := [(0, (.inl (po_aload 0 1))), (1, (.inl (po_get 10 15 4))), (4, (.inl (po_if1 (fun x => decide (x = 0)) 10 7))), (10, (.inl (po_aload 0 11))), (11, (.inl (po_get 10 12 14))), (14, (.inl (po_aload 0 15))), (15, (.inl (po_get 10 13 18))), (18, (.inl (po_cv 86 1 8 7 21))), (21, (.inl (po_istore 1 22))), (22, (.inl (po_iload 1 23))), (23, (.inl (po_if1 (fun x => !decide (x = 0)) 28 26))), (26, (.inl (po_push 0 27))), (27, (.inr (re_i)))]
set_option maxRecDepth 100000 in
set_option maxHeartbeats 4000000 in
theorem qs_9 : pr_aS pr_ms m_9 [(0, (.inl (po_aload 0 1))), (1, (.inl (po_get 10 15 4))), (4, (.inl (po_if1 (fun x => decide (x = 0)) 10 7))), (10, (.inl (po_aload 0 11))), (11, (.inl (po_get 10 12 14))), (14, (.inl (po_aload 0 15))), (15, (.inl (po_get 10 13 18))), (18, (.inl (po_cv 86 1 8 7 21))), (21, (.inl (po_istore 1 22))), (22, (.inl (po_iload 1 23))), (23, (.inl (po_if1 (fun x => !decide (x = 0)) 28 26))), (26, (.inl (po_push 0 27))), (27, (.inr (re_i)))] := pr_aS_c (pr_eI (os_aload_n (q := 0) dX10_step_0)) (pr_aS_c (pr_eI (os_get (kf := 15) dX10_step_1 cf_10 (by decide) wd_87)) (pr_aS_c (pr_eI (os_if_eq dX10_step_4 (by decide))) (pr_aS_c (pr_eI (os_aload_n (q := 0) dX10_step_10)) (pr_aS_c (pr_eI (os_get (kf := 12) dX10_step_11 cf_10 (by decide) wd_65)) (pr_aS_c (pr_eI (os_aload_n (q := 0) dX10_step_14)) (pr_aS_c (pr_eI (os_get (kf := 13) dX10_step_15 cf_10 (by decide) wd_82)) (pr_aS_c (pr_eI (os_cv dX10_step_18 (k := 86) rfl rfl cal_86 wd_108 wd_110 wd_109 rfl)) (pr_aS_c (pr_eI (os_istore_n (q := 1) dX10_step_21 (by decide))) (pr_aS_c (pr_eI (os_iload_n (q := 1) dX10_step_22)) (pr_aS_c (pr_eI (os_if_ne dX10_step_23 (by decide))) (pr_aS_c (pr_eI (os_iconst dX10_step_26 (by decide +kernel))) (pr_aS_c (pr_eR (rs_i dX10_step_27 rfl)) trivial))))))))))))
theorem dX10_join_0 : decode cX10_join 0 = .ok (.aload_n 0, 1) := by decide +kernel
theorem dX10_join_1 : decode cX10_join 1 = .ok (.getfield 39, 3) := by decide +kernel
theorem dX10_join_4 : decode cX10_join 4 = .ok (.aload_n 0, 1) := by decide +kernel
theorem dX10_join_5 : decode cX10_join 5 = .ok (.getfield 27, 3) := by decide +kernel
theorem dX10_join_8 : decode cX10_join 8 = .ok (.invokevirtual 225, 3) := by decide +kernel
theorem dX10_join_11 : decode cX10_join 11 = .ok (.istore_n 1, 1) := by decide +kernel
theorem dX10_join_12 : decode cX10_join 12 = .ok (.aload_n 0, 1) := by decide +kernel
theorem dX10_join_13 : decode cX10_join 13 = .ok (.invokevirtual 113, 3) := by decide +kernel
theorem dX10_join_16 : decode cX10_join 16 = .ok (.iload_n 1, 1) := by decide +kernel
theorem dX10_join_17 : decode cX10_join 17 = .ok (.ifCond .ne 14, 3) := by decide +kernel
theorem dX10_join_20 : decode cX10_join 20 = .ok (.bipush (-10), 2) := by decide +kernel
theorem dX10_join_22 : decode cX10_join 22 = .ok (.aload_n 0, 1) := by decide +kernel
theorem dX10_join_23 : decode cX10_join 23 = .ok (.getfield 39, 3) := by decide +kernel
theorem dX10_join_26 : decode cX10_join 26 = .ok (.invokevirtual 116, 3) := by decide +kernel
theorem dX10_join_29 : decode cX10_join 29 = .ok (.isub, 1) := by decide +kernel
theorem dX10_join_30 : decode cX10_join 30 = .ok (.ireturn, 1) := by decide +kernel
/-- InferResolve.join()I -/
noncomputable def qc_10 : pr_Co := [(0, (.inl (po_aload 0 1))), (1, (.inl (po_get 10 5 4))), (4, (.inl (po_aload 0 5))), (5, (.inl (po_get 10 3 8))), (8, (.inl (po_cv 68 1 5 4 11))), (11, (.inl (po_istore 1 12))), (12, (.inl (po_aload 0 13))), (13, (.inl (po_cv 12 0 10 1 16))), (16, (.inl (po_iload 1 17))), (17, (.inl (po_if1 (fun x => !decide (x = 0)) 31 20))), (20, (.inl (po_push (-10) 22))), (22, (.inl (po_aload 0 23))), (23, (.inl (po_get 10 5 26))), (26, (.inl (po_cv 65 0 5 1 29))), (29, (.inl (po_i2 (fun x y => x - y) 30))), (30, (.inr (re_i)))]
set_option maxRecDepth 100000 in
set_option maxHeartbeats 4000000 in
theorem qs_10 : pr_aS pr_ms m_10 [(0, (.inl (po_aload 0 1))), (1, (.inl (po_get 10 5 4))), (4, (.inl (po_aload 0 5))), (5, (.inl (po_get 10 3 8))), (8, (.inl (po_cv 68 1 5 4 11))), (11, (.inl (po_istore 1 12))), (12, (.inl (po_aload 0 13))), (13, (.inl (po_cv 12 0 10 1 16))), (16, (.inl (po_iload 1 17))), (17, (.inl (po_if1 (fun x => !decide (x = 0)) 31 20))), (20, (.inl (po_push (-10) 22))), (22, (.inl (po_aload 0 23))), (23, (.inl (po_get 10 5 26))), (26, (.inl (po_cv 65 0 5 1 29))), (29, (.inl (po_i2 (fun x y => x - y) 30))), (30, (.inr (re_i)))] := pr_aS_c (pr_eI (os_aload_n (q := 0) dX10_join_0)) (pr_aS_c (pr_eI (os_get (kf := 5) dX10_join_1 cf_10 (by decide) wd_23)) (pr_aS_c (pr_eI (os_aload_n (q := 0) dX10_join_4)) (pr_aS_c (pr_eI (os_get (kf := 3) dX10_join_5 cf_10 (by decide) wd_16)) (pr_aS_c (pr_eI (os_cv dX10_join_8 (k := 68) rfl rfl cal_68 wd_111 wd_113 wd_112 rfl)) (pr_aS_c (pr_eI (os_istore_n (q := 1) dX10_join_11 (by decide))) (pr_aS_c (pr_eI (os_aload_n (q := 0) dX10_join_12)) (pr_aS_c (pr_eI (os_cv dX10_join_13 (k := 12) rfl rfl cal_12 wd_69 wd_71 wd_70 rfl)) (pr_aS_c (pr_eI (os_iload_n (q := 1) dX10_join_16)) (pr_aS_c (pr_eI (os_if_ne dX10_join_17 (by decide))) (pr_aS_c (pr_eI (os_bipush dX10_join_20 (by decide +kernel))) (pr_aS_c (pr_eI (os_aload_n (q := 0) dX10_join_22)) (pr_aS_c (pr_eI (os_get (kf := 5) dX10_join_23 cf_10 (by decide) wd_23)) (pr_aS_c (pr_eI (os_cv dX10_join_26 (k := 65) rfl rfl cal_65 wd_91 wd_93 wd_92 rfl)) (pr_aS_c (pr_eI (os_isub dX10_join_29)) (pr_aS_c (pr_eR (rs_i dX10_join_30 rfl)) trivial)))))))))))))))
theorem dX10_below_0 : decode cX10_below 0 = .ok (.aload_n 0, 1) := by decide +kernel
theorem dX10_below_1 : decode cX10_below 1 = .ok (.getfield 39, 3) := by decide +kernel
theorem dX10_below_4 : decode cX10_below 4 = .ok (.aload_n 0, 1) := by decide +kernel
theorem dX10_below_5 : decode cX10_below 5 = .ok (.getfield 27, 3) := by decide +kernel
theorem dX10_below_8 : decode cX10_below 8 = .ok (.iconst 0, 1) := by decide +kernel
theorem dX10_below_9 : decode cX10_below 9 = .ok (.iconst 0, 1) := by decide +kernel
theorem dX10_below_10 : decode cX10_below 10 = .ok (.invokevirtual 142, 3) := by decide +kernel
theorem dX10_below_13 : decode cX10_below 13 = .ok (.istore_n 1, 1) := by decide +kernel
theorem dX10_below_14 : decode cX10_below 14 = .ok (.aload_n 0, 1) := by decide +kernel
theorem dX10_below_15 : decode cX10_below 15 = .ok (.invokevirtual 113, 3) := by decide +kernel
theorem dX10_below_18 : decode cX10_below 18 = .ok (.iload_n 1, 1) := by decide +kernel
theorem dX10_below_19 : decode cX10_below 19 = .ok (.ifCond .ne 14, 3) := by decide +kernel
theorem dX10_below_22 : decode cX10_below 22 = .ok (.bipush (-10), 2) := by decide +kernel
theorem dX10_below_24 : decode cX10_below 24 = .ok (.aload_n 0, 1) := by decide +kernel
theorem dX10_below_25 : decode cX10_below 25 = .ok (.getfield 39, 3) := by decide +kernel
theorem dX10_below_28 : decode cX10_below 28 = .ok (.invokevirtual 116, 3) := by decide +kernel
theorem dX10_below_31 : decode cX10_below 31 = .ok (.isub, 1) := by decide +kernel
theorem dX10_below_32 : decode cX10_below 32 = .ok (.ireturn, 1) := by decide +kernel
/-- InferResolve.below()I -/
noncomputable def qc_11 : pr_Co := [(0, (.inl (po_aload 0 1))), (1, (.inl (po_get 10 5 4))), (4, (.inl (po_aload 0 5))), (5, (.inl (po_get 10 3 8))), (8, (.inl (po_push 0 9))), (9, (.inl (po_push 0 10))), (10, (.inl (po_cv 67 3 5 4 13))), (13, (.inl (po_istore 1 14))), (14, (.inl (po_aload 0 15))), (15, (.inl (po_cv 12 0 10 1 18))), (18, (.inl (po_iload 1 19))), (19, (.inl (po_if1 (fun x => !decide (x = 0)) 33 22))), (22, (.inl (po_push (-10) 24))), (24, (.inl (po_aload 0 25))), (25, (.inl (po_get 10 5 28))), (28, (.inl (po_cv 65 0 5 1 31))), (31, (.inl (po_i2 (fun x y => x - y) 32))), (32, (.inr (re_i)))]
set_option maxRecDepth 100000 in
set_option maxHeartbeats 4000000 in
theorem qs_11 : pr_aS pr_ms m_11 [(0, (.inl (po_aload 0 1))), (1, (.inl (po_get 10 5 4))), (4, (.inl (po_aload 0 5))), (5, (.inl (po_get 10 3 8))), (8, (.inl (po_push 0 9))), (9, (.inl (po_push 0 10))), (10, (.inl (po_cv 67 3 5 4 13))), (13, (.inl (po_istore 1 14))), (14, (.inl (po_aload 0 15))), (15, (.inl (po_cv 12 0 10 1 18))), (18, (.inl (po_iload 1 19))), (19, (.inl (po_if1 (fun x => !decide (x = 0)) 33 22))), (22, (.inl (po_push (-10) 24))), (24, (.inl (po_aload 0 25))), (25, (.inl (po_get 10 5 28))), (28, (.inl (po_cv 65 0 5 1 31))), (31, (.inl (po_i2 (fun x y => x - y) 32))), (32, (.inr (re_i)))] := pr_aS_c (pr_eI (os_aload_n (q := 0) dX10_below_0)) (pr_aS_c (pr_eI (os_get (kf := 5) dX10_below_1 cf_10 (by decide) wd_23)) (pr_aS_c (pr_eI (os_aload_n (q := 0) dX10_below_4)) (pr_aS_c (pr_eI (os_get (kf := 3) dX10_below_5 cf_10 (by decide) wd_16)) (pr_aS_c (pr_eI (os_iconst dX10_below_8 (by decide +kernel))) (pr_aS_c (pr_eI (os_iconst dX10_below_9 (by decide +kernel))) (pr_aS_c (pr_eI (os_cv dX10_below_10 (k := 67) rfl rfl cal_67 wd_88 wd_90 wd_89 rfl)) (pr_aS_c (pr_eI (os_istore_n (q := 1) dX10_below_13 (by decide))) (pr_aS_c (pr_eI (os_aload_n (q := 0) dX10_below_14)) (pr_aS_c (pr_eI (os_cv dX10_below_15 (k := 12) rfl rfl cal_12 wd_69 wd_71 wd_70 rfl)) (pr_aS_c (pr_eI (os_iload_n (q := 1) dX10_below_18)) (pr_aS_c (pr_eI (os_if_ne dX10_below_19 (by decide))) (pr_aS_c (pr_eI (os_bipush dX10_below_22 (by decide +kernel))) (pr_aS_c (pr_eI (os_aload_n (q := 0) dX10_below_24)) (pr_aS_c (pr_eI (os_get (kf := 5) dX10_below_25 cf_10 (by decide) wd_23)) (pr_aS_c (pr_eI (os_cv dX10_below_28 (k := 65) rfl rfl cal_65 wd_91 wd_93 wd_92 rfl)) (pr_aS_c (pr_eI (os_isub dX10_below_31)) (pr_aS_c (pr_eR (rs_i dX10_below_32 rfl)) trivial)))))))))))))))))
theorem dX10_endText_0 : decode cX10_endText 0 = .ok (.aload_n 0, 1) := by decide +kernel
theorem dX10_endText_1 : decode cX10_endText 1 = .ok (.getfield 14, 3) := by decide +kernel
theorem dX10_endText_4 : decode cX10_endText 4 = .ok (.iconst 0, 1) := by decide +kernel
theorem dX10_endText_5 : decode cX10_endText 5 = .ok (.invokevirtual 228, 3) := by decide +kernel
theorem dX10_endText_8 : decode cX10_endText 8 = .ok (.aload_n 0, 1) := by decide +kernel
theorem dX10_endText_9 : decode cX10_endText 9 = .ok (.aload_n 0, 1) := by decide +kernel
theorem dX10_endText_10 : decode cX10_endText 10 = .ok (.getfield 39, 3) := by decide +kernel
theorem dX10_endText_13 : decode cX10_endText 13 = .ok (.invokevirtual 246, 3) := by decide +kernel
theorem dX10_endText_16 : decode cX10_endText 16 = .ok (.putfield 128, 3) := by decide +kernel
theorem dX10_endText_19 : decode cX10_endText 19 = .ok (.return_, 1) := by decide +kernel
/-- InferResolve.endText()V -/
noncomputable def qc_12 : pr_Co := [(0, (.inl (po_aload 0 1))), (1, (.inl (po_get 10 0 4))), (4, (.inl (po_push 0 5))), (5, (.inl (po_cv 83 1 7 2 8))), (8, (.inl (po_aload 0 9))), (9, (.inl (po_aload 0 10))), (10, (.inl (po_get 10 5 13))), (13, (.inl (po_cv 64 0 5 1 16))), (16, (.inl (po_puti 10 16 19))), (19, (.inr (re_v)))]
set_option maxRecDepth 100000 in
set_option maxHeartbeats 4000000 in
theorem qs_12 : pr_aS pr_ms m_12 [(0, (.inl (po_aload 0 1))), (1, (.inl (po_get 10 0 4))), (4, (.inl (po_push 0 5))), (5, (.inl (po_cv 83 1 7 2 8))), (8, (.inl (po_aload 0 9))), (9, (.inl (po_aload 0 10))), (10, (.inl (po_get 10 5 13))), (13, (.inl (po_cv 64 0 5 1 16))), (16, (.inl (po_puti 10 16 19))), (19, (.inr (re_v)))] := pr_aS_c (pr_eI (os_aload_n (q := 0) dX10_endText_0)) (pr_aS_c (pr_eI (os_get (kf := 0) dX10_endText_1 cf_10 (by decide) wd_8)) (pr_aS_c (pr_eI (os_iconst dX10_endText_4 (by decide +kernel))) (pr_aS_c (pr_eI (os_cv dX10_endText_5 (k := 83) rfl rfl cal_83 wd_114 wd_116 wd_115 rfl)) (pr_aS_c (pr_eI (os_aload_n (q := 0) dX10_endText_8)) (pr_aS_c (pr_eI (os_aload_n (q := 0) dX10_endText_9)) (pr_aS_c (pr_eI (os_get (kf := 5) dX10_endText_10 cf_10 (by decide) wd_23)) (pr_aS_c (pr_eI (os_cv dX10_endText_13 (k := 64) rfl rfl cal_64 wd_117 wd_119 wd_118 rfl)) (pr_aS_c (pr_eI (os_puti (kf := 16) dX10_endText_16 cf_10 (by decide) wd_81 rfl rfl)) (pr_aS_c (pr_eR (rs_v dX10_endText_19 rfl)) trivial)))))))))
theorem dX10_forgetBounds_0 : decode cX10_forgetBounds 0 = .ok (.aload_n 0, 1) := by decide +kernel
theorem dX10_forgetBounds_1 : decode cX10_forgetBounds 1 = .ok (.getfield 55, 3) := by decide +kernel
theorem dX10_forgetBounds_4 : decode cX10_forgetBounds 4 = .ok (.invokevirtual 249, 3) := by decide +kernel
theorem dX10_forgetBounds_7 : decode cX10_forgetBounds 7 = .ok (.aload_n 0, 1) := by decide +kernel
theorem dX10_forgetBounds_8 : decode cX10_forgetBounds 8 = .ok (.getfield 82, 3) := by decide +kernel
theorem dX10_forgetBounds_11 : decode cX10_forgetBounds 11 = .ok (.invokevirtual 252, 3) := by decide +kernel
theorem dX10_forgetBounds_14 : decode cX10_forgetBounds 14 = .ok (.aload_n 0, 1) := by decide +kernel
theorem dX10_forgetBounds_15 : decode cX10_forgetBounds 15 = .ok (.iconst 0, 1) := by decide +kernel
theorem dX10_forgetBounds_16 : decode cX10_forgetBounds 16 = .ok (.putfield 132, 3) := by decide +kernel
theorem dX10_forgetBounds_19 : decode cX10_forgetBounds 19 = .ok (.aload_n 0, 1) := by decide +kernel
theorem dX10_forgetBounds_20 : decode cX10_forgetBounds 20 = .ok (.iconst 0, 1) := by decide +kernel
theorem dX10_forgetBounds_21 : decode cX10_forgetBounds 21 = .ok (.putfield 135, 3) := by decide +kernel
theorem dX10_forgetBounds_24 : decode cX10_forgetBounds 24 = .ok (.aload_n 0, 1) := by decide +kernel
theorem dX10_forgetBounds_25 : decode cX10_forgetBounds 25 = .ok (.iconst 0, 1) := by decide +kernel
theorem dX10_forgetBounds_26 : decode cX10_forgetBounds 26 = .ok (.putfield 139, 3) := by decide +kernel
theorem dX10_forgetBounds_29 : decode cX10_forgetBounds 29 = .ok (.return_, 1) := by decide +kernel
/-- InferResolve.forgetBounds()V -/
noncomputable def qc_13 : pr_Co := [(0, (.inl (po_aload 0 1))), (1, (.inl (po_get 10 7 4))), (4, (.inl (po_cv 49 0 0 1 7))), (7, (.inl (po_aload 0 8))), (8, (.inl (po_get 10 10 11))), (11, (.inl (po_cv 52 0 1 1 14))), (14, (.inl (po_aload 0 15))), (15, (.inl (po_push 0 16))), (16, (.inl (po_puti 10 13 19))), (19, (.inl (po_aload 0 20))), (20, (.inl (po_push 0 21))), (21, (.inl (po_puti 10 14 24))), (24, (.inl (po_aload 0 25))), (25, (.inl (po_push 0 26))), (26, (.inl (po_puti 10 15 29))), (29, (.inr (re_v)))]
set_option maxRecDepth 100000 in
set_option maxHeartbeats 4000000 in
theorem qs_13 : pr_aS pr_ms m_13 [(0, (.inl (po_aload 0 1))), (1, (.inl (po_get 10 7 4))), (4, (.inl (po_cv 49 0 0 1 7))), (7, (.inl (po_aload 0 8))), (8, (.inl (po_get 10 10 11))), (11, (.inl (po_cv 52 0 1 1 14))), (14, (.inl (po_aload 0 15))), (15, (.inl (po_push 0 16))), (16, (.inl (po_puti 10 13 19))), (19, (.inl (po_aload 0 20))), (20, (.inl (po_push 0 21))), (21, (.inl (po_puti 10 14 24))), (24, (.inl (po_aload 0 25))), (25, (.inl (po_push 0 26))), (26, (.inl (po_puti 10 15 29))), (29, (.inr (re_v)))] := pr_aS_c (pr_eI (os_aload_n (q := 0) dX10_forgetBounds_0)) (pr_aS_c (pr_eI (os_get (kf := 7) dX10_forgetBounds_1 cf_10 (by decide) wd_35)) (pr_aS_c (pr_eI (os_cv dX10_forgetBounds_4 (k := 49) rfl rfl cal_49 wd_120 wd_122 wd_121 rfl)) (pr_aS_c (pr_eI (os_aload_n (q := 0) dX10_forgetBounds_7)) (pr_aS_c (pr_eI (os_get (kf := 10) dX10_forgetBounds_8 cf_10 (by decide) wd_53)) (pr_aS_c (pr_eI (os_cv dX10_forgetBounds_11 (k := 52) rfl rfl cal_52 wd_123 wd_125 wd_124 rfl)) (pr_aS_c (pr_eI (os_aload_n (q := 0) dX10_forgetBounds_14)) (pr_aS_c (pr_eI (os_iconst dX10_forgetBounds_15 (by decide +kernel))) (pr_aS_c (pr_eI (os_puti (kf := 13) dX10_forgetBounds_16 cf_10 (by decide) wd_82 rfl rfl)) (pr_aS_c (pr_eI (os_aload_n (q := 0) dX10_forgetBounds_19)) (pr_aS_c (pr_eI (os_iconst dX10_forgetBounds_20 (by decide +kernel))) (pr_aS_c (pr_eI (os_puti (kf := 14) dX10_forgetBounds_21 cf_10 (by decide) wd_83 rfl rfl)) (pr_aS_c (pr_eI (os_aload_n (q := 0) dX10_forgetBounds_24)) (pr_aS_c (pr_eI (os_iconst dX10_forgetBounds_25 (by decide +kernel))) (pr_aS_c (pr_eI (os_puti (kf := 15) dX10_forgetBounds_26 cf_10 (by decide) wd_87 rfl rfl)) (pr_aS_c (pr_eR (rs_v dX10_forgetBounds_29 rfl)) trivial)))))))))))))))
theorem dX14_made_0 : decode cX14_made 0 = .ok (.aload_n 1, 1) := by decide +kernel
theorem dX14_made_1 : decode cX14_made 1 = .ok (.iload_n 2, 1) := by decide +kernel
theorem dX14_made_2 : decode cX14_made 2 = .ok (.iload_n 3, 1) := by decide +kernel
theorem dX14_made_3 : decode cX14_made 3 = .ok (.aload_n 0, 1) := by decide +kernel
theorem dX14_made_4 : decode cX14_made 4 = .ok (.getfield 7, 3) := by decide +kernel
theorem dX14_made_7 : decode cX14_made 7 = .ok (.iload 4, 2) := by decide +kernel
theorem dX14_made_9 : decode cX14_made 9 = .ok (.aload_n 0, 1) := by decide +kernel
theorem dX14_made_10 : decode cX14_made 10 = .ok (.getfield 11, 3) := by decide +kernel
theorem dX14_made_13 : decode cX14_made 13 = .ok (.iload 4, 2) := by decide +kernel
theorem dX14_made_15 : decode cX14_made 15 = .ok (.isub, 1) := by decide +kernel
theorem dX14_made_16 : decode cX14_made 16 = .ok (.invokevirtual 14, 3) := by decide +kernel
theorem dX14_made_19 : decode cX14_made 19 = .ok (.istore 5, 2) := by decide +kernel
theorem dX14_made_21 : decode cX14_made 21 = .ok (.aload_n 0, 1) := by decide +kernel
theorem dX14_made_22 : decode cX14_made 22 = .ok (.iload 4, 2) := by decide +kernel
theorem dX14_made_24 : decode cX14_made 24 = .ok (.putfield 11, 3) := by decide +kernel
theorem dX14_made_27 : decode cX14_made 27 = .ok (.iload 5, 2) := by decide +kernel
theorem dX14_made_29 : decode cX14_made 29 = .ok (.ireturn, 1) := by decide +kernel
/-- InferResolveModel.made(LInferResolveModel$Store;III)I -/
noncomputable def qc_14 : pr_Co := [(0, (.inl (po_aload 1 1))), (1, (.inl (po_iload 2 2))), (2, (.inl (po_iload 3 3))), (3, (.inl (po_aload 0 4))), (4, (.inl (po_get 14 3 7))), (7, (.inl (po_iload 4 9))), (9, (.inl (po_aload 0 10))), (10, (.inl (po_get 14 4 13))), (13, (.inl (po_iload 4 15))), (15, (.inl (po_i2 (fun x y => x - y) 16))), (16, (.inl (po_cv 96 5 13 9 19))), (19, (.inl (po_istore 5 21))), (21, (.inl (po_aload 0 22))), (22, (.inl (po_iload 4 24))), (24, (.inl (po_puti 14 4 27))), (27, (.inl (po_iload 5 29))), (29, (.inr (re_i)))]
set_option maxRecDepth 100000 in
set_option maxHeartbeats 4000000 in
theorem qs_14 : pr_aS pr_ms m_14 [(0, (.inl (po_aload 1 1))), (1, (.inl (po_iload 2 2))), (2, (.inl (po_iload 3 3))), (3, (.inl (po_aload 0 4))), (4, (.inl (po_get 14 3 7))), (7, (.inl (po_iload 4 9))), (9, (.inl (po_aload 0 10))), (10, (.inl (po_get 14 4 13))), (13, (.inl (po_iload 4 15))), (15, (.inl (po_i2 (fun x y => x - y) 16))), (16, (.inl (po_cv 96 5 13 9 19))), (19, (.inl (po_istore 5 21))), (21, (.inl (po_aload 0 22))), (22, (.inl (po_iload 4 24))), (24, (.inl (po_puti 14 4 27))), (27, (.inl (po_iload 5 29))), (29, (.inr (re_i)))] := pr_aS_c (pr_eI (os_aload_n (q := 1) dX14_made_0)) (pr_aS_c (pr_eI (os_iload_n (q := 2) dX14_made_1)) (pr_aS_c (pr_eI (os_iload_n (q := 3) dX14_made_2)) (pr_aS_c (pr_eI (os_aload_n (q := 0) dX14_made_3)) (pr_aS_c (pr_eI (os_get (kf := 3) dX14_made_4 cf_14 (by decide) wd_126)) (pr_aS_c (pr_eI (os_iload dX14_made_7)) (pr_aS_c (pr_eI (os_aload_n (q := 0) dX14_made_9)) (pr_aS_c (pr_eI (os_get (kf := 4) dX14_made_10 cf_14 (by decide) wd_127)) (pr_aS_c (pr_eI (os_iload dX14_made_13)) (pr_aS_c (pr_eI (os_isub dX14_made_15)) (pr_aS_c (pr_eI (os_cv dX14_made_16 (k := 96) rfl rfl cal_96 wd_128 wd_130 wd_129 rfl)) (pr_aS_c (pr_eI (os_istore dX14_made_19 (by decide))) (pr_aS_c (pr_eI (os_aload_n (q := 0) dX14_made_21)) (pr_aS_c (pr_eI (os_iload dX14_made_22)) (pr_aS_c (pr_eI (os_puti (kf := 4) dX14_made_24 cf_14 (by decide) wd_127 rfl rfl)) (pr_aS_c (pr_eI (os_iload dX14_made_27)) (pr_aS_c (pr_eR (rs_i dX14_made_29 rfl)) trivial))))))))))))))))
theorem dX14_init_0 : decode cX14_init 0 = .ok (.aload_n 0, 1) := by decide +kernel
theorem dX14_init_1 : decode cX14_init 1 = .ok (.invokespecial 30, 3) := by decide +kernel
theorem dX14_init_4 : decode cX14_init 4 = .ok (.aload_n 0, 1) := by decide +kernel
theorem dX14_init_5 : decode cX14_init 5 = .ok (.new 15, 3) := by decide +kernel
theorem dX14_init_8 : decode cX14_init 8 = .ok (.dup, 1) := by decide +kernel
theorem dX14_init_9 : decode cX14_init 9 = .ok (.invokespecial 36, 3) := by decide +kernel
theorem dX14_init_12 : decode cX14_init 12 = .ok (.putfield 20, 3) := by decide +kernel
theorem dX14_init_15 : decode cX14_init 15 = .ok (.aload_n 0, 1) := by decide +kernel
theorem dX14_init_16 : decode cX14_init 16 = .ok (.new 15, 3) := by decide +kernel
theorem dX14_init_19 : decode cX14_init 19 = .ok (.dup, 1) := by decide +kernel
theorem dX14_init_20 : decode cX14_init 20 = .ok (.invokespecial 36, 3) := by decide +kernel
theorem dX14_init_23 : decode cX14_init 23 = .ok (.putfield 37, 3) := by decide +kernel
theorem dX14_init_26 : decode cX14_init 26 = .ok (.aload_n 0, 1) := by decide +kernel
theorem dX14_init_27 : decode cX14_init 27 = .ok (.sipush 4096, 3) := by decide +kernel
theorem dX14_init_30 : decode cX14_init 30 = .ok (.newarray .int, 2) := by decide +kernel
theorem dX14_init_32 : decode cX14_init 32 = .ok (.putfield 7, 3) := by decide +kernel
theorem dX14_init_35 : decode cX14_init 35 = .ok (.aload_n 0, 1) := by decide +kernel
theorem dX14_init_36 : decode cX14_init 36 = .ok (.new 40, 3) := by decide +kernel
theorem dX14_init_39 : decode cX14_init 39 = .ok (.dup, 1) := by decide +kernel
theorem dX14_init_40 : decode cX14_init 40 = .ok (.invokespecial 42, 3) := by decide +kernel
theorem dX14_init_43 : decode cX14_init 43 = .ok (.putfield 43, 3) := by decide +kernel
theorem dX14_init_46 : decode cX14_init 46 = .ok (.aload_n 0, 1) := by decide +kernel
theorem dX14_init_47 : decode cX14_init 47 = .ok (.new 40, 3) := by decide +kernel
theorem dX14_init_50 : decode cX14_init 50 = .ok (.dup, 1) := by decide +kernel
theorem dX14_init_51 : decode cX14_init 51 = .ok (.invokespecial 42, 3) := by decide +kernel
theorem dX14_init_54 : decode cX14_init 54 = .ok (.putfield 47, 3) := by decide +kernel
theorem dX14_init_57 : decode cX14_init 57 = .ok (.aload_n 0, 1) := by decide +kernel
theorem dX14_init_58 : decode cX14_init 58 = .ok (.bipush 6, 2) := by decide +kernel
theorem dX14_init_60 : decode cX14_init 60 = .ok (.newarray .boolean, 2) := by decide +kernel
theorem dX14_init_62 : decode cX14_init 62 = .ok (.putfield 50, 3) := by decide +kernel
theorem dX14_init_65 : decode cX14_init 65 = .ok (.aload_n 0, 1) := by decide +kernel
theorem dX14_init_66 : decode cX14_init 66 = .ok (.sipush 600, 3) := by decide +kernel
theorem dX14_init_69 : decode cX14_init 69 = .ok (.newarray .byte, 2) := by decide +kernel
theorem dX14_init_71 : decode cX14_init 71 = .ok (.putfield 54, 3) := by decide +kernel
theorem dX14_init_74 : decode cX14_init 74 = .ok (.aload_n 0, 1) := by decide +kernel
theorem dX14_init_75 : decode cX14_init 75 = .ok (.iconst 5, 1) := by decide +kernel
theorem dX14_init_76 : decode cX14_init 76 = .ok (.newarray .int, 2) := by decide +kernel
theorem dX14_init_78 : decode cX14_init 78 = .ok (.putfield 58, 3) := by decide +kernel
theorem dX14_init_81 : decode cX14_init 81 = .ok (.aload_n 0, 1) := by decide +kernel
theorem dX14_init_82 : decode cX14_init 82 = .ok (.new 61, 3) := by decide +kernel
theorem dX14_init_85 : decode cX14_init 85 = .ok (.dup, 1) := by decide +kernel
theorem dX14_init_86 : decode cX14_init 86 = .ok (.invokespecial 63, 3) := by decide +kernel
theorem dX14_init_89 : decode cX14_init 89 = .ok (.putfield 64, 3) := by decide +kernel
theorem dX14_init_92 : decode cX14_init 92 = .ok (.aload_n 0, 1) := by decide +kernel
theorem dX14_init_93 : decode cX14_init 93 = .ok (.new 61, 3) := by decide +kernel
theorem dX14_init_96 : decode cX14_init 96 = .ok (.dup, 1) := by decide +kernel
theorem dX14_init_97 : decode cX14_init 97 = .ok (.invokespecial 63, 3) := by decide +kernel
theorem dX14_init_100 : decode cX14_init 100 = .ok (.putfield 68, 3) := by decide +kernel
theorem dX14_init_103 : decode cX14_init 103 = .ok (.aload_n 0, 1) := by decide +kernel
theorem dX14_init_104 : decode cX14_init 104 = .ok (.sipush 2048, 3) := by decide +kernel
theorem dX14_init_107 : decode cX14_init 107 = .ok (.newarray .byte, 2) := by decide +kernel
theorem dX14_init_109 : decode cX14_init 109 = .ok (.putfield 71, 3) := by decide +kernel
theorem dX14_init_112 : decode cX14_init 112 = .ok (.aload_n 0, 1) := by decide +kernel
theorem dX14_init_113 : decode cX14_init 113 = .ok (.sipush 2048, 3) := by decide +kernel
theorem dX14_init_116 : decode cX14_init 116 = .ok (.newarray .byte, 2) := by decide +kernel
theorem dX14_init_118 : decode cX14_init 118 = .ok (.putfield 74, 3) := by decide +kernel
theorem dX14_init_121 : decode cX14_init 121 = .ok (.aload_n 0, 1) := by decide +kernel
theorem dX14_init_122 : decode cX14_init 122 = .ok (.sipush 16384, 3) := by decide +kernel
theorem dX14_init_125 : decode cX14_init 125 = .ok (.newarray .byte, 2) := by decide +kernel
theorem dX14_init_127 : decode cX14_init 127 = .ok (.putfield 77, 3) := by decide +kernel
theorem dX14_init_130 : decode cX14_init 130 = .ok (.aload_n 0, 1) := by decide +kernel
theorem dX14_init_131 : decode cX14_init 131 = .ok (.sipush 8192, 3) := by decide +kernel
theorem dX14_init_134 : decode cX14_init 134 = .ok (.newarray .int, 2) := by decide +kernel
theorem dX14_init_136 : decode cX14_init 136 = .ok (.putfield 80, 3) := by decide +kernel
theorem dX14_init_139 : decode cX14_init 139 = .ok (.aload_n 0, 1) := by decide +kernel
theorem dX14_init_140 : decode cX14_init 140 = .ok (.sipush 8192, 3) := by decide +kernel
theorem dX14_init_143 : decode cX14_init 143 = .ok (.newarray .int, 2) := by decide +kernel
theorem dX14_init_145 : decode cX14_init 145 = .ok (.putfield 83, 3) := by decide +kernel
theorem dX14_init_148 : decode cX14_init 148 = .ok (.aload_n 0, 1) := by decide +kernel
theorem dX14_init_149 : decode cX14_init 149 = .ok (.sipush 8192, 3) := by decide +kernel
theorem dX14_init_152 : decode cX14_init 152 = .ok (.newarray .int, 2) := by decide +kernel
theorem dX14_init_154 : decode cX14_init 154 = .ok (.putfield 86, 3) := by decide +kernel
theorem dX14_init_157 : decode cX14_init 157 = .ok (.aload_n 0, 1) := by decide +kernel
theorem dX14_init_158 : decode cX14_init 158 = .ok (.bipush 6, 2) := by decide +kernel
theorem dX14_init_160 : decode cX14_init 160 = .ok (.newarray .int, 2) := by decide +kernel
theorem dX14_init_162 : decode cX14_init 162 = .ok (.putfield 89, 3) := by decide +kernel
theorem dX14_init_165 : decode cX14_init 165 = .ok (.aload_n 0, 1) := by decide +kernel
theorem dX14_init_166 : decode cX14_init 166 = .ok (.sipush 8192, 3) := by decide +kernel
theorem dX14_init_169 : decode cX14_init 169 = .ok (.newarray .int, 2) := by decide +kernel
theorem dX14_init_171 : decode cX14_init 171 = .ok (.putfield 92, 3) := by decide +kernel
theorem dX14_init_174 : decode cX14_init 174 = .ok (.aload_n 0, 1) := by decide +kernel
theorem dX14_init_175 : decode cX14_init 175 = .ok (.bipush 6, 2) := by decide +kernel
theorem dX14_init_177 : decode cX14_init 177 = .ok (.newarray .int, 2) := by decide +kernel
theorem dX14_init_179 : decode cX14_init 179 = .ok (.putfield 95, 3) := by decide +kernel
theorem dX14_init_182 : decode cX14_init 182 = .ok (.aload_n 0, 1) := by decide +kernel
theorem dX14_init_183 : decode cX14_init 183 = .ok (.getfield 20, 3) := by decide +kernel
theorem dX14_init_186 : decode cX14_init 186 = .ok (.invokevirtual 98, 3) := by decide +kernel
theorem dX14_init_189 : decode cX14_init 189 = .ok (.aload_n 0, 1) := by decide +kernel
theorem dX14_init_190 : decode cX14_init 190 = .ok (.aload_n 0, 1) := by decide +kernel
theorem dX14_init_191 : decode cX14_init 191 = .ok (.getfield 43, 3) := by decide +kernel
theorem dX14_init_194 : decode cX14_init 194 = .ok (.aload_n 0, 1) := by decide +kernel
theorem dX14_init_195 : decode cX14_init 195 = .ok (.getfield 20, 3) := by decide +kernel
theorem dX14_init_198 : decode cX14_init 198 = .ok (.invokevirtual 101, 3) := by decide +kernel
theorem dX14_init_201 : decode cX14_init 201 = .ok (.return_, 1) := by decide +kernel
/-- InferResolveModel.<init>()V -/
noncomputable def qc_15 : pr_Co := [(0, (.inl (po_aload 0 1))), (1, (.inl (po_oi 4))), (4, (.inl (po_aload 0 5))), (5, (.inl (po_new 13 [.int 0, .int 0, .null, .null, .null, .null, .null, .null, .null, .null, .null, .null] 8))), (8, (.inl (po_dup 9))), (9, (.inl (po_ci 94 0 1 12))), (12, (.inl (po_putr 14 1 15))), (15, (.inl (po_aload 0 16))), (16, (.inl (po_new 13 [.int 0, .int 0, .null, .null, .null, .null, .null, .null, .null, .null, .null, .null] 19))), (19, (.inl (po_dup 20))), (20, (.inl (po_ci 94 0 1 23))), (23, (.inl (po_putr 14 2 26))), (26, (.inl (po_aload 0 27))), (27, (.inl (po_push 4096 30))), (30, (.inl (po_newI 32))), (32, (.inl (po_putr 14 3 35))), (35, (.inl (po_aload 0 36))), (36, (.inl (po_new 12 [.int 0, .null, .null, .null, .null] 39))), (39, (.inl (po_dup 40))), (40, (.inl (po_ci 91 0 1 43))), (43, (.inl (po_putr 14 5 46))), (46, (.inl (po_aload 0 47))), (47, (.inl (po_new 12 [.int 0, .null, .null, .null, .null] 50))), (50, (.inl (po_dup 51))), (51, (.inl (po_ci 91 0 1 54))), (54, (.inl (po_putr 14 6 57))), (57, (.inl (po_aload 0 58))), (58, (.inl (po_push 6 60))), (60, (.inl (po_newG 2 (fun N => (N, .inl (fun _ => 0))) 62))), (62, (.inl (po_putr 14 7 65))), (65, (.inl (po_aload 0 66))), (66, (.inl (po_push 600 69))), (69, (.inl (po_newG 3 (fun N => (N, .inl (fun _ => 0))) 71))), (71, (.inl (po_putr 14 9 74))), (74, (.inl (po_aload 0 75))), (75, (.inl (po_push 5 76))), (76, (.inl (po_newI 78))), (78, (.inl (po_putr 14 19 81))), (81, (.inl (po_aload 0 82))), (82, (.inl (po_new 11 [.int 0, .null, .null, .null] 85))), (85, (.inl (po_dup 86))), (86, (.inl (po_ci 89 0 1 89))), (89, (.inl (po_putr 14 20 92))), (92, (.inl (po_aload 0 93))), (93, (.inl (po_new 11 [.int 0, .null, .null, .null] 96))), (96, (.inl (po_dup 97))), (97, (.inl (po_ci 89 0 1 100))), (100, (.inl (po_putr 14 21 103))), (103, (.inl (po_aload 0 104))), (104, (.inl (po_push 2048 107))), (107, (.inl (po_newG 3 (fun N => (N, .inl (fun _ => 0))) 109))), (109, (.inl (po_putr 14 27 112))), (112, (.inl (po_aload 0 113))), (113, (.inl (po_push 2048 116))), (116, (.inl (po_newG 3 (fun N => (N, .inl (fun _ => 0))) 118))), (118, (.inl (po_putr 14 28 121))), (121, (.inl (po_aload 0 122))), (122, (.inl (po_push 16384 125))), (125, (.inl (po_newG 3 (fun N => (N, .inl (fun _ => 0))) 127))), (127, (.inl (po_putr 14 29 130))), (130, (.inl (po_aload 0 131))), (131, (.inl (po_push 8192 134))), (134, (.inl (po_newI 136))), (136, (.inl (po_putr 14 31 139))), (139, (.inl (po_aload 0 140))), (140, (.inl (po_push 8192 143))), (143, (.inl (po_newI 145))), (145, (.inl (po_putr 14 32 148))), (148, (.inl (po_aload 0 149))), (149, (.inl (po_push 8192 152))), (152, (.inl (po_newI 154))), (154, (.inl (po_putr 14 33 157))), (157, (.inl (po_aload 0 158))), (158, (.inl (po_push 6 160))), (160, (.inl (po_newI 162))), (162, (.inl (po_putr 14 34 165))), (165, (.inl (po_aload 0 166))), (166, (.inl (po_push 8192 169))), (169, (.inl (po_newI 171))), (171, (.inl (po_putr 14 35 174))), (174, (.inl (po_aload 0 175))), (175, (.inl (po_push 6 177))), (177, (.inl (po_newI 179))), (179, (.inl (po_putr 14 37 182))), (182, (.inl (po_aload 0 183))), (183, (.inl (po_get 14 1 186))), (186, (.inl (po_cv 95 0 13 3 189))), (189, (.inl (po_aload 0 190))), (190, (.inl (po_aload 0 191))), (191, (.inl (po_get 14 5 194))), (194, (.inl (po_aload 0 195))), (195, (.inl (po_get 14 1 198))), (198, (.inl (po_cv 17 2 14 5 201))), (201, (.inr (re_v)))]
set_option maxRecDepth 100000 in
set_option maxHeartbeats 4000000 in
theorem qs_15 : pr_aS pr_ms m_15 [(0, (.inl (po_aload 0 1))), (1, (.inl (po_oi 4))), (4, (.inl (po_aload 0 5))), (5, (.inl (po_new 13 [.int 0, .int 0, .null, .null, .null, .null, .null, .null, .null, .null, .null, .null] 8))), (8, (.inl (po_dup 9))), (9, (.inl (po_ci 94 0 1 12))), (12, (.inl (po_putr 14 1 15))), (15, (.inl (po_aload 0 16))), (16, (.inl (po_new 13 [.int 0, .int 0, .null, .null, .null, .null, .null, .null, .null, .null, .null, .null] 19))), (19, (.inl (po_dup 20))), (20, (.inl (po_ci 94 0 1 23))), (23, (.inl (po_putr 14 2 26))), (26, (.inl (po_aload 0 27))), (27, (.inl (po_push 4096 30))), (30, (.inl (po_newI 32))), (32, (.inl (po_putr 14 3 35))), (35, (.inl (po_aload 0 36))), (36, (.inl (po_new 12 [.int 0, .null, .null, .null, .null] 39))), (39, (.inl (po_dup 40))), (40, (.inl (po_ci 91 0 1 43))), (43, (.inl (po_putr 14 5 46))), (46, (.inl (po_aload 0 47))), (47, (.inl (po_new 12 [.int 0, .null, .null, .null, .null] 50))), (50, (.inl (po_dup 51))), (51, (.inl (po_ci 91 0 1 54))), (54, (.inl (po_putr 14 6 57))), (57, (.inl (po_aload 0 58))), (58, (.inl (po_push 6 60))), (60, (.inl (po_newG 2 (fun N => (N, .inl (fun _ => 0))) 62))), (62, (.inl (po_putr 14 7 65))), (65, (.inl (po_aload 0 66))), (66, (.inl (po_push 600 69))), (69, (.inl (po_newG 3 (fun N => (N, .inl (fun _ => 0))) 71))), (71, (.inl (po_putr 14 9 74))), (74, (.inl (po_aload 0 75))), (75, (.inl (po_push 5 76))), (76, (.inl (po_newI 78))), (78, (.inl (po_putr 14 19 81))), (81, (.inl (po_aload 0 82))), (82, (.inl (po_new 11 [.int 0, .null, .null, .null] 85))), (85, (.inl (po_dup 86))), (86, (.inl (po_ci 89 0 1 89))), (89, (.inl (po_putr 14 20 92))), (92, (.inl (po_aload 0 93))), (93, (.inl (po_new 11 [.int 0, .null, .null, .null] 96))), (96, (.inl (po_dup 97))), (97, (.inl (po_ci 89 0 1 100))), (100, (.inl (po_putr 14 21 103))), (103, (.inl (po_aload 0 104))), (104, (.inl (po_push 2048 107))), (107, (.inl (po_newG 3 (fun N => (N, .inl (fun _ => 0))) 109))), (109, (.inl (po_putr 14 27 112))), (112, (.inl (po_aload 0 113))), (113, (.inl (po_push 2048 116))), (116, (.inl (po_newG 3 (fun N => (N, .inl (fun _ => 0))) 118))), (118, (.inl (po_putr 14 28 121))), (121, (.inl (po_aload 0 122))), (122, (.inl (po_push 16384 125))), (125, (.inl (po_newG 3 (fun N => (N, .inl (fun _ => 0))) 127))), (127, (.inl (po_putr 14 29 130))), (130, (.inl (po_aload 0 131))), (131, (.inl (po_push 8192 134))), (134, (.inl (po_newI 136))), (136, (.inl (po_putr 14 31 139))), (139, (.inl (po_aload 0 140))), (140, (.inl (po_push 8192 143))), (143, (.inl (po_newI 145))), (145, (.inl (po_putr 14 32 148))), (148, (.inl (po_aload 0 149))), (149, (.inl (po_push 8192 152))), (152, (.inl (po_newI 154))), (154, (.inl (po_putr 14 33 157))), (157, (.inl (po_aload 0 158))), (158, (.inl (po_push 6 160))), (160, (.inl (po_newI 162))), (162, (.inl (po_putr 14 34 165))), (165, (.inl (po_aload 0 166))), (166, (.inl (po_push 8192 169))), (169, (.inl (po_newI 171))), (171, (.inl (po_putr 14 35 174))), (174, (.inl (po_aload 0 175))), (175, (.inl (po_push 6 177))), (177, (.inl (po_newI 179))), (179, (.inl (po_putr 14 37 182))), (182, (.inl (po_aload 0 183))), (183, (.inl (po_get 14 1 186))), (186, (.inl (po_cv 95 0 13 3 189))), (189, (.inl (po_aload 0 190))), (190, (.inl (po_aload 0 191))), (191, (.inl (po_get 14 5 194))), (194, (.inl (po_aload 0 195))), (195, (.inl (po_get 14 1 198))), (198, (.inl (po_cv 17 2 14 5 201))), (201, (.inr (re_v)))] := pr_aS_c (pr_eI (os_aload_n (q := 0) dX14_init_0)) (pr_aS_c (pr_eI (os_oi dX14_init_1 wd_131 wd_1 wd_2)) (pr_aS_c (pr_eI (os_aload_n (q := 0) dX14_init_4)) (pr_aS_c (pr_eI (os_new dX14_init_5 cf_13 wd_132 wd_133 wd_134 (by decide +kernel))) (pr_aS_c (pr_eI (os_dup dX14_init_8)) (pr_aS_c (pr_eI (os_ciN dX14_init_9 (k := 94) rfl rfl cal_94 (List.mem_of_getElem? (l := pz_nm) (i := 10) rfl) wd_135 rfl rfl)) (pr_aS_c (pr_eI (os_putr (kf := 1) dX14_init_12 cf_14 (by decide) wd_136 rfl (Or.inl ⟨_, rfl⟩))) (pr_aS_c (pr_eI (os_aload_n (q := 0) dX14_init_15)) (pr_aS_c (pr_eI (os_new dX14_init_16 cf_13 wd_132 wd_133 wd_134 (by decide +kernel))) (pr_aS_c (pr_eI (os_dup dX14_init_19)) (pr_aS_c (pr_eI (os_ciN dX14_init_20 (k := 94) rfl rfl cal_94 (List.mem_of_getElem? (l := pz_nm) (i := 10) rfl) wd_135 rfl rfl)) (pr_aS_c (pr_eI (os_putr (kf := 2) dX14_init_23 cf_14 (by decide) wd_137 rfl (Or.inl ⟨_, rfl⟩))) (pr_aS_c (pr_eI (os_aload_n (q := 0) dX14_init_26)) (pr_aS_c (pr_eI (os_sipush dX14_init_27 (by decide +kernel))) (pr_aS_c (pr_eI (os_newI dX14_init_30 wd_138)) (pr_aS_c (pr_eI (os_putrF (kf := 3) dX14_init_32 cf_14 (by decide) wd_126 rfl rfl rfl (Or.inr ⟨_, rfl⟩))) (pr_aS_c (pr_eI (os_aload_n (q := 0) dX14_init_35)) (pr_aS_c (pr_eI (os_new dX14_init_36 cf_12 wd_139 wd_140 wd_141 (by decide +kernel))) (pr_aS_c (pr_eI (os_dup dX14_init_39)) (pr_aS_c (pr_eI (os_ciN dX14_init_40 (k := 91) rfl rfl cal_91 (List.mem_of_getElem? (l := pz_nm) (i := 11) rfl) wd_142 rfl rfl)) (pr_aS_c (pr_eI (os_putr (kf := 5) dX14_init_43 cf_14 (by decide) wd_143 rfl (Or.inl ⟨_, rfl⟩))) (pr_aS_c (pr_eI (os_aload_n (q := 0) dX14_init_46)) (pr_aS_c (pr_eI (os_new dX14_init_47 cf_12 wd_139 wd_140 wd_141 (by decide +kernel))) (pr_aS_c (pr_eI (os_dup dX14_init_50)) (pr_aS_c (pr_eI (os_ciN dX14_init_51 (k := 91) rfl rfl cal_91 (List.mem_of_getElem? (l := pz_nm) (i := 11) rfl) wd_142 rfl rfl)) (pr_aS_c (pr_eI (os_putr (kf := 6) dX14_init_54 cf_14 (by decide) wd_144 rfl (Or.inl ⟨_, rfl⟩))) (pr_aS_c (pr_eI (os_aload_n (q := 0) dX14_init_57)) (pr_aS_c (pr_eI (os_bipush dX14_init_58 (by decide +kernel))) (pr_aS_c (pr_eI (os_newG dX14_init_60 rfl (fun _ _ => rfl) (fun _ => rfl) (fun _ _ _ => rfl) wd_145 (by decide))) (pr_aS_c (pr_eI (os_putrF (kf := 7) dX14_init_62 cf_14 (by decide) wd_146 rfl rfl rfl (Or.inr ⟨_, rfl⟩))) (pr_aS_c (pr_eI (os_aload_n (q := 0) dX14_init_65)) (pr_aS_c (pr_eI (os_sipush dX14_init_66 (by decide +kernel))) (pr_aS_c (pr_eI (os_newG dX14_init_69 rfl (fun _ _ => rfl) (fun _ => rfl) (fun _ _ _ => rfl) wd_147 (by decide))) (pr_aS_c (pr_eI (os_putrF (kf := 9) dX14_init_71 cf_14 (by decide) wd_148 rfl rfl rfl (Or.inr ⟨_, rfl⟩))) (pr_aS_c (pr_eI (os_aload_n (q := 0) dX14_init_74)) (pr_aS_c (pr_eI (os_iconst dX14_init_75 (by decide +kernel))) (pr_aS_c (pr_eI (os_newI dX14_init_76 wd_138)) (pr_aS_c (pr_eI (os_putrF (kf := 19) dX14_init_78 cf_14 (by decide) wd_149 rfl rfl rfl (Or.inr ⟨_, rfl⟩))) (pr_aS_c (pr_eI (os_aload_n (q := 0) dX14_init_81)) (pr_aS_c (pr_eI (os_new dX14_init_82 cf_11 wd_150 wd_151 wd_152 (by decide +kernel))) (pr_aS_c (pr_eI (os_dup dX14_init_85)) (pr_aS_c (pr_eI (os_ciN dX14_init_86 (k := 89) rfl rfl cal_89 (List.mem_of_getElem? (l := pz_nm) (i := 12) rfl) wd_153 rfl rfl)) (pr_aS_c (pr_eI (os_putrF (kf := 20) dX14_init_89 cf_14 (by decide) wd_154 rfl rfl rfl (Or.inl ⟨_, rfl⟩))) (pr_aS_c (pr_eI (os_aload_n (q := 0) dX14_init_92)) (pr_aS_c (pr_eI (os_new dX14_init_93 cf_11 wd_150 wd_151 wd_152 (by decide +kernel))) (pr_aS_c (pr_eI (os_dup dX14_init_96)) (pr_aS_c (pr_eI (os_ciN dX14_init_97 (k := 89) rfl rfl cal_89 (List.mem_of_getElem? (l := pz_nm) (i := 12) rfl) wd_153 rfl rfl)) (pr_aS_c (pr_eI (os_putrF (kf := 21) dX14_init_100 cf_14 (by decide) wd_155 rfl rfl rfl (Or.inl ⟨_, rfl⟩))) (pr_aS_c (pr_eI (os_aload_n (q := 0) dX14_init_103)) (pr_aS_c (pr_eI (os_sipush dX14_init_104 (by decide +kernel))) (pr_aS_c (pr_eI (os_newG dX14_init_107 rfl (fun _ _ => rfl) (fun _ => rfl) (fun _ _ _ => rfl) wd_147 (by decide))) (pr_aS_c (pr_eI (os_putrF (kf := 27) dX14_init_109 cf_14 (by decide) wd_156 rfl rfl rfl (Or.inr ⟨_, rfl⟩))) (pr_aS_c (pr_eI (os_aload_n (q := 0) dX14_init_112)) (pr_aS_c (pr_eI (os_sipush dX14_init_113 (by decide +kernel))) (pr_aS_c (pr_eI (os_newG dX14_init_116 rfl (fun _ _ => rfl) (fun _ => rfl) (fun _ _ _ => rfl) wd_147 (by decide))) (pr_aS_c (pr_eI (os_putrF (kf := 28) dX14_init_118 cf_14 (by decide) wd_157 rfl rfl rfl (Or.inr ⟨_, rfl⟩))) (pr_aS_c (pr_eI (os_aload_n (q := 0) dX14_init_121)) (pr_aS_c (pr_eI (os_sipush dX14_init_122 (by decide +kernel))) (pr_aS_c (pr_eI (os_newG dX14_init_125 rfl (fun _ _ => rfl) (fun _ => rfl) (fun _ _ _ => rfl) wd_147 (by decide))) (pr_aS_c (pr_eI (os_putrF (kf := 29) dX14_init_127 cf_14 (by decide) wd_158 rfl rfl rfl (Or.inr ⟨_, rfl⟩))) (pr_aS_c (pr_eI (os_aload_n (q := 0) dX14_init_130)) (pr_aS_c (pr_eI (os_sipush dX14_init_131 (by decide +kernel))) (pr_aS_c (pr_eI (os_newI dX14_init_134 wd_138)) (pr_aS_c (pr_eI (os_putrF (kf := 31) dX14_init_136 cf_14 (by decide) wd_159 rfl rfl rfl (Or.inr ⟨_, rfl⟩))) (pr_aS_c (pr_eI (os_aload_n (q := 0) dX14_init_139)) (pr_aS_c (pr_eI (os_sipush dX14_init_140 (by decide +kernel))) (pr_aS_c (pr_eI (os_newI dX14_init_143 wd_138)) (pr_aS_c (pr_eI (os_putrF (kf := 32) dX14_init_145 cf_14 (by decide) wd_160 rfl rfl rfl (Or.inr ⟨_, rfl⟩))) (pr_aS_c (pr_eI (os_aload_n (q := 0) dX14_init_148)) (pr_aS_c (pr_eI (os_sipush dX14_init_149 (by decide +kernel))) (pr_aS_c (pr_eI (os_newI dX14_init_152 wd_138)) (pr_aS_c (pr_eI (os_putrF (kf := 33) dX14_init_154 cf_14 (by decide) wd_161 rfl rfl rfl (Or.inr ⟨_, rfl⟩))) (pr_aS_c (pr_eI (os_aload_n (q := 0) dX14_init_157)) (pr_aS_c (pr_eI (os_bipush dX14_init_158 (by decide +kernel))) (pr_aS_c (pr_eI (os_newI dX14_init_160 wd_138)) (pr_aS_c (pr_eI (os_putrF (kf := 34) dX14_init_162 cf_14 (by decide) wd_162 rfl rfl rfl (Or.inr ⟨_, rfl⟩))) (pr_aS_c (pr_eI (os_aload_n (q := 0) dX14_init_165)) (pr_aS_c (pr_eI (os_sipush dX14_init_166 (by decide +kernel))) (pr_aS_c (pr_eI (os_newI dX14_init_169 wd_138)) (pr_aS_c (pr_eI (os_putrF (kf := 35) dX14_init_171 cf_14 (by decide) wd_163 rfl rfl rfl (Or.inr ⟨_, rfl⟩))) (pr_aS_c (pr_eI (os_aload_n (q := 0) dX14_init_174)) (pr_aS_c (pr_eI (os_bipush dX14_init_175 (by decide +kernel))) (pr_aS_c (pr_eI (os_newI dX14_init_177 wd_138)) (pr_aS_c (pr_eI (os_putrF (kf := 37) dX14_init_179 cf_14 (by decide) wd_164 rfl rfl rfl (Or.inr ⟨_, rfl⟩))) (pr_aS_c (pr_eI (os_aload_n (q := 0) dX14_init_182)) (pr_aS_c (pr_eI (os_get (kf := 1) dX14_init_183 cf_14 (by decide) wd_136)) (pr_aS_c (pr_eI (os_cv dX14_init_186 (k := 95) rfl rfl cal_95 wd_165 wd_167 wd_166 rfl)) (pr_aS_c (pr_eI (os_aload_n (q := 0) dX14_init_189)) (pr_aS_c (pr_eI (os_aload_n (q := 0) dX14_init_190)) (pr_aS_c (pr_eI (os_get (kf := 5) dX14_init_191 cf_14 (by decide) wd_143)) (pr_aS_c (pr_eI (os_aload_n (q := 0) dX14_init_194)) (pr_aS_c (pr_eI (os_get (kf := 1) dX14_init_195 cf_14 (by decide) wd_136)) (pr_aS_c (pr_eI (os_cv dX14_init_198 (k := 17) rfl rfl cal_17 wd_168 wd_170 wd_169 rfl)) (pr_aS_c (pr_eR (rs_v dX14_init_201 rfl)) trivial)))))))))))))))))))))))))))))))))))))))))))))))))))))))))))))))))))))))))))))))))))))))))))))
theorem dX14_nameOf_0 : decode cX14_nameOf 0 = .ok (.lconst 0, 1) := by decide +kernel
theorem dX14_nameOf_1 : decode cX14_nameOf 1 = .ok (.lstore_n 1, 1) := by decide +kernel
theorem dX14_nameOf_2 : decode cX14_nameOf 2 = .ok (.iconst 0, 1) := by decide +kernel
theorem dX14_nameOf_3 : decode cX14_nameOf 3 = .ok (.istore_n 3, 1) := by decide +kernel
theorem dX14_nameOf_4 : decode cX14_nameOf 4 = .ok (.iload_n 3, 1) := by decide +kernel
theorem dX14_nameOf_5 : decode cX14_nameOf 5 = .ok (.aload_n 0, 1) := by decide +kernel
theorem dX14_nameOf_6 : decode cX14_nameOf 6 = .ok (.invokevirtual 105, 3) := by decide +kernel
theorem dX14_nameOf_9 : decode cX14_nameOf 9 = .ok (.if_icmp .ge 21, 3) := by decide +kernel
theorem dX14_nameOf_12 : decode cX14_nameOf 12 = .ok (.lload_n 1, 1) := by decide +kernel
theorem dX14_nameOf_13 : decode cX14_nameOf 13 = .ok (.bipush 8, 2) := by decide +kernel
theorem dX14_nameOf_15 : decode cX14_nameOf 15 = .ok (.lshl, 1) := by decide +kernel
theorem dX14_nameOf_16 : decode cX14_nameOf 16 = .ok (.aload_n 0, 1) := by decide +kernel
theorem dX14_nameOf_17 : decode cX14_nameOf 17 = .ok (.iload_n 3, 1) := by decide +kernel
theorem dX14_nameOf_18 : decode cX14_nameOf 18 = .ok (.invokevirtual 111, 3) := by decide +kernel
theorem dX14_nameOf_21 : decode cX14_nameOf 21 = .ok (.i2l, 1) := by decide +kernel
theorem dX14_nameOf_22 : decode cX14_nameOf 22 = .ok (.lor, 1) := by decide +kernel
theorem dX14_nameOf_23 : decode cX14_nameOf 23 = .ok (.lstore_n 1, 1) := by decide +kernel
theorem dX14_nameOf_24 : decode cX14_nameOf 24 = .ok (.iinc 3 1, 3) := by decide +kernel
theorem dX14_nameOf_27 : decode cX14_nameOf 27 = .ok (.goto (-23), 3) := by decide +kernel
theorem dX14_nameOf_30 : decode cX14_nameOf 30 = .ok (.lload_n 1, 1) := by decide +kernel
theorem dX14_nameOf_31 : decode cX14_nameOf 31 = .ok (.lreturn, 1) := by decide +kernel
/-- InferResolveModel.nameOf(Ljava/lang/String;)J -/
noncomputable def qc_16 : pr_Co := [(0, (.inl (po_lpush 0 1))), (1, (.inl (po_lstore 1 2))), (2, (.inl (po_push 0 3))), (3, (.inl (po_istore 3 4))), (4, (.inl (po_iload 3 5))), (5, (.inl (po_aloadM 0 6))), (6, (.inl (po_ct 98 0 1 9))), (9, (.inl (po_if2 (fun x y => decide (y ≤ x)) 30 12))), (12, (.inl (po_lload 1 13))), (13, (.inl (po_push 8 15))), (15, (.inl (po_lshl 16))), (16, (.inl (po_aloadM 0 17))), (17, (.inl (po_iload 3 18))), (18, (.inl (po_ct 100 1 2 21))), (21, (.inl (po_i2l 22))), (22, (.inl (po_lor 23))), (23, (.inl (po_lstore 1 24))), (24, (.inl (po_iinc 3 1 27))), (27, (.inl (po_goto 4))), (30, (.inl (po_lload 1 31))), (31, (.inr (re_l)))]
set_option maxRecDepth 100000 in
set_option maxHeartbeats 4000000 in
theorem qs_16 : pr_aS pr_ms m_16 [(0, (.inl (po_lpush 0 1))), (1, (.inl (po_lstore 1 2))), (2, (.inl (po_push 0 3))), (3, (.inl (po_istore 3 4))), (4, (.inl (po_iload 3 5))), (5, (.inl (po_aloadM 0 6))), (6, (.inl (po_ct 98 0 1 9))), (9, (.inl (po_if2 (fun x y => decide (y ≤ x)) 30 12))), (12, (.inl (po_lload 1 13))), (13, (.inl (po_push 8 15))), (15, (.inl (po_lshl 16))), (16, (.inl (po_aloadM 0 17))), (17, (.inl (po_iload 3 18))), (18, (.inl (po_ct 100 1 2 21))), (21, (.inl (po_i2l 22))), (22, (.inl (po_lor 23))), (23, (.inl (po_lstore 1 24))), (24, (.inl (po_iinc 3 1 27))), (27, (.inl (po_goto 4))), (30, (.inl (po_lload 1 31))), (31, (.inr (re_l)))] := pr_aS_c (pr_eI (os_lconst dX14_nameOf_0 (by decide +kernel))) (pr_aS_c (pr_eI (os_lstore_n (q := 1) dX14_nameOf_1 (by decide))) (pr_aS_c (pr_eI (os_iconst dX14_nameOf_2 (by decide +kernel))) (pr_aS_c (pr_eI (os_istore_n (q := 3) dX14_nameOf_3 (by decide))) (pr_aS_c (pr_eI (os_iload_n (q := 3) dX14_nameOf_4)) (pr_aS_c (pr_eI (os_aloadM_n (q := 0) dX14_nameOf_5)) (pr_aS_c (pr_eI (os_ct dX14_nameOf_6 (k := 98) rfl rfl cal_98 wd_171 wd_173 wd_172 rfl)) (pr_aS_c (pr_eI (os_icmp_ge dX14_nameOf_9 (by decide))) (pr_aS_c (pr_eI (os_lload_n (q := 1) dX14_nameOf_12)) (pr_aS_c (pr_eI (os_bipush dX14_nameOf_13 (by decide +kernel))) (pr_aS_c (pr_eI (os_lshl dX14_nameOf_15)) (pr_aS_c (pr_eI (os_aloadM_n (q := 0) dX14_nameOf_16)) (pr_aS_c (pr_eI (os_iload_n (q := 3) dX14_nameOf_17)) (pr_aS_c (pr_eI (os_ct dX14_nameOf_18 (k := 100) rfl rfl cal_100 wd_174 wd_176 wd_175 rfl)) (pr_aS_c (pr_eI (os_i2l dX14_nameOf_21)) (pr_aS_c (pr_eI (os_lor dX14_nameOf_22)) (pr_aS_c (pr_eI (os_lstore_n (q := 1) dX14_nameOf_23 (by decide))) (pr_aS_c (pr_eI (os_iinc dX14_nameOf_24 (by decide +kernel) (by decide))) (pr_aS_c (pr_eI (os_goto dX14_nameOf_27 (by decide))) (pr_aS_c (pr_eI (os_lload_n (q := 1) dX14_nameOf_30)) (pr_aS_c (pr_eR (rs_l dX14_nameOf_31 rfl)) trivial))))))))))))))))))))
theorem dX14_begin_0 : decode cX14_begin 0 = .ok (.aload_n 1, 1) := by decide +kernel
theorem dX14_begin_1 : decode cX14_begin 1 = .ok (.iconst 0, 1) := by decide +kernel
theorem dX14_begin_2 : decode cX14_begin 2 = .ok (.putfield 115, 3) := by decide +kernel
theorem dX14_begin_5 : decode cX14_begin 5 = .ok (.aload_n 1, 1) := by decide +kernel
theorem dX14_begin_6 : decode cX14_begin 6 = .ok (.ldc 118, 2) := by decide +kernel
theorem dX14_begin_8 : decode cX14_begin 8 = .ok (.invokestatic 120, 3) := by decide +kernel
theorem dX14_begin_11 : decode cX14_begin 11 = .ok (.invokevirtual 124, 3) := by decide +kernel
theorem dX14_begin_14 : decode cX14_begin 14 = .ok (.aload_n 1, 1) := by decide +kernel
theorem dX14_begin_15 : decode cX14_begin 15 = .ok (.ldc 127, 2) := by decide +kernel
theorem dX14_begin_17 : decode cX14_begin 17 = .ok (.invokestatic 120, 3) := by decide +kernel
theorem dX14_begin_20 : decode cX14_begin 20 = .ok (.invokevirtual 124, 3) := by decide +kernel
theorem dX14_begin_23 : decode cX14_begin 23 = .ok (.aload_n 1, 1) := by decide +kernel
theorem dX14_begin_24 : decode cX14_begin 24 = .ok (.ldc 129, 2) := by decide +kernel
theorem dX14_begin_26 : decode cX14_begin 26 = .ok (.invokestatic 120, 3) := by decide +kernel
theorem dX14_begin_29 : decode cX14_begin 29 = .ok (.invokevirtual 124, 3) := by decide +kernel
theorem dX14_begin_32 : decode cX14_begin 32 = .ok (.aload_n 1, 1) := by decide +kernel
theorem dX14_begin_33 : decode cX14_begin 33 = .ok (.ldc 131, 2) := by decide +kernel
theorem dX14_begin_35 : decode cX14_begin 35 = .ok (.invokestatic 120, 3) := by decide +kernel
theorem dX14_begin_38 : decode cX14_begin 38 = .ok (.invokevirtual 124, 3) := by decide +kernel
theorem dX14_begin_41 : decode cX14_begin 41 = .ok (.iconst 0, 1) := by decide +kernel
theorem dX14_begin_42 : decode cX14_begin 42 = .ok (.istore_n 3, 1) := by decide +kernel
theorem dX14_begin_43 : decode cX14_begin 43 = .ok (.iload_n 3, 1) := by decide +kernel
theorem dX14_begin_44 : decode cX14_begin 44 = .ok (.iconst 3, 1) := by decide +kernel
theorem dX14_begin_45 : decode cX14_begin 45 = .ok (.if_icmp .gt 49, 3) := by decide +kernel
theorem dX14_begin_48 : decode cX14_begin 48 = .ok (.iconst 0, 1) := by decide +kernel
theorem dX14_begin_49 : decode cX14_begin 49 = .ok (.istore 4, 2) := by decide +kernel
theorem dX14_begin_51 : decode cX14_begin 51 = .ok (.iload 4, 2) := by decide +kernel
theorem dX14_begin_53 : decode cX14_begin 53 = .ok (.iload_n 3, 1) := by decide +kernel
theorem dX14_begin_54 : decode cX14_begin 54 = .ok (.if_icmp .gt 34, 3) := by decide +kernel
theorem dX14_begin_57 : decode cX14_begin 57 = .ok (.aload_n 1, 1) := by decide +kernel
theorem dX14_begin_58 : decode cX14_begin 58 = .ok (.getfield 133, 3) := by decide +kernel
theorem dX14_begin_61 : decode cX14_begin 61 = .ok (.bipush 20, 2) := by decide +kernel
theorem dX14_begin_63 : decode cX14_begin 63 = .ok (.iload_n 3, 1) := by decide +kernel
theorem dX14_begin_64 : decode cX14_begin 64 = .ok (.imul, 1) := by decide +kernel
theorem dX14_begin_65 : decode cX14_begin 65 = .ok (.iload 4, 2) := by decide +kernel
theorem dX14_begin_67 : decode cX14_begin 67 = .ok (.iadd, 1) := by decide +kernel
theorem dX14_begin_68 : decode cX14_begin 68 = .ok (.aload_n 2, 1) := by decide +kernel
theorem dX14_begin_69 : decode cX14_begin 69 = .ok (.iconst 2, 1) := by decide +kernel
theorem dX14_begin_70 : decode cX14_begin 70 = .ok (.iload 4, 2) := by decide +kernel
theorem dX14_begin_72 : decode cX14_begin 72 = .ok (.aload_n 0, 1) := by decide +kernel
theorem dX14_begin_73 : decode cX14_begin 73 = .ok (.getfield 7, 3) := by decide +kernel
theorem dX14_begin_76 : decode cX14_begin 76 = .ok (.iconst 0, 1) := by decide +kernel
theorem dX14_begin_77 : decode cX14_begin 77 = .ok (.iconst 0, 1) := by decide +kernel
theorem dX14_begin_78 : decode cX14_begin 78 = .ok (.invokevirtual 14, 3) := by decide +kernel
theorem dX14_begin_81 : decode cX14_begin 81 = .ok (.iastore, 1) := by decide +kernel
theorem dX14_begin_82 : decode cX14_begin 82 = .ok (.iinc 4 1, 3) := by decide +kernel
theorem dX14_begin_85 : decode cX14_begin 85 = .ok (.goto (-34), 3) := by decide +kernel
theorem dX14_begin_88 : decode cX14_begin 88 = .ok (.iinc 3 1, 3) := by decide +kernel
theorem dX14_begin_91 : decode cX14_begin 91 = .ok (.goto (-48), 3) := by decide +kernel
theorem dX14_begin_94 : decode cX14_begin 94 = .ok (.return_, 1) := by decide +kernel
/-- InferResolveModel.begin(LInferResolveModel$Kinds;LInferResolveModel$Store;)V -/
noncomputable def qc_17 : pr_Co := [(0, (.inl (po_aload 1 1))), (1, (.inl (po_push 0 2))), (2, (.inl (po_puti 12 0 5))), (5, (.inl (po_aload 1 6))), (6, (.inl (po_mark 0 8))), (8, (.inl (po_cs 16 1 4 11))), (11, (.inl (po_cv 93 1 12 4 14))), (14, (.inl (po_aload 1 15))), (15, (.inl (po_mark 1 17))), (17, (.inl (po_cs 16 1 4 20))), (20, (.inl (po_cv 93 1 12 4 23))), (23, (.inl (po_aload 1 24))), (24, (.inl (po_mark 2 26))), (26, (.inl (po_cs 16 1 4 29))), (29, (.inl (po_cv 93 1 12 4 32))), (32, (.inl (po_aload 1 33))), (33, (.inl (po_mark 3 35))), (35, (.inl (po_cs 16 1 4 38))), (38, (.inl (po_cv 93 1 12 4 41))), (41, (.inl (po_push 0 42))), (42, (.inl (po_istore 3 43))), (43, (.inl (po_iload 3 44))), (44, (.inl (po_push 3 45))), (45, (.inl (po_if2 (fun x y => decide (y < x)) 94 48))), (48, (.inl (po_push 0 49))), (49, (.inl (po_istore 4 51))), (51, (.inl (po_iload 4 53))), (53, (.inl (po_iload 3 54))), (54, (.inl (po_if2 (fun x y => decide (y < x)) 88 57))), (57, (.inl (po_aload 1 58))), (58, (.inl (po_get 12 4 61))), (61, (.inl (po_push 20 63))), (63, (.inl (po_iload 3 64))), (64, (.inl (po_i2 (fun x y => x * y) 65))), (65, (.inl (po_iload 4 67))), (67, (.inl (po_i2 (fun x y => x + y) 68))), (68, (.inl (po_aload 2 69))), (69, (.inl (po_push 2 70))), (70, (.inl (po_iload 4 72))), (72, (.inl (po_aload 0 73))), (73, (.inl (po_get 14 3 76))), (76, (.inl (po_push 0 77))), (77, (.inl (po_push 0 78))), (78, (.inl (po_cv 96 5 13 9 81))), (81, (.inl (po_iast 82))), (82, (.inl (po_iinc 4 1 85))), (85, (.inl (po_goto 51))), (88, (.inl (po_iinc 3 1 91))), (91, (.inl (po_goto 43))), (94, (.inr (re_v)))]
set_option maxRecDepth 100000 in
set_option maxHeartbeats 4000000 in
theorem qs_17 : pr_aS pr_ms m_17 [(0, (.inl (po_aload 1 1))), (1, (.inl (po_push 0 2))), (2, (.inl (po_puti 12 0 5))), (5, (.inl (po_aload 1 6))), (6, (.inl (po_mark 0 8))), (8, (.inl (po_cs 16 1 4 11))), (11, (.inl (po_cv 93 1 12 4 14))), (14, (.inl (po_aload 1 15))), (15, (.inl (po_mark 1 17))), (17, (.inl (po_cs 16 1 4 20))), (20, (.inl (po_cv 93 1 12 4 23))), (23, (.inl (po_aload 1 24))), (24, (.inl (po_mark 2 26))), (26, (.inl (po_cs 16 1 4 29))), (29, (.inl (po_cv 93 1 12 4 32))), (32, (.inl (po_aload 1 33))), (33, (.inl (po_mark 3 35))), (35, (.inl (po_cs 16 1 4 38))), (38, (.inl (po_cv 93 1 12 4 41))), (41, (.inl (po_push 0 42))), (42, (.inl (po_istore 3 43))), (43, (.inl (po_iload 3 44))), (44, (.inl (po_push 3 45))), (45, (.inl (po_if2 (fun x y => decide (y < x)) 94 48))), (48, (.inl (po_push 0 49))), (49, (.inl (po_istore 4 51))), (51, (.inl (po_iload 4 53))), (53, (.inl (po_iload 3 54))), (54, (.inl (po_if2 (fun x y => decide (y < x)) 88 57))), (57, (.inl (po_aload 1 58))), (58, (.inl (po_get 12 4 61))), (61, (.inl (po_push 20 63))), (63, (.inl (po_iload 3 64))), (64, (.inl (po_i2 (fun x y => x * y) 65))), (65, (.inl (po_iload 4 67))), (67, (.inl (po_i2 (fun x y => x + y) 68))), (68, (.inl (po_aload 2 69))), (69, (.inl (po_push 2 70))), (70, (.inl (po_iload 4 72))), (72, (.inl (po_aload 0 73))), (73, (.inl (po_get 14 3 76))), (76, (.inl (po_push 0 77))), (77, (.inl (po_push 0 78))), (78, (.inl (po_cv 96 5 13 9 81))), (81, (.inl (po_iast 82))), (82, (.inl (po_iinc 4 1 85))), (85, (.inl (po_goto 51))), (88, (.inl (po_iinc 3 1 91))), (91, (.inl (po_goto 43))), (94, (.inr (re_v)))] := pr_aS_c (pr_eI (os_aload_n (q := 1) dX14_begin_0)) (pr_aS_c (pr_eI (os_iconst dX14_begin_1 (by decide +kernel))) (pr_aS_c (pr_eI (os_puti (kf := 0) dX14_begin_2 cf_12 (by decide) wd_177 rfl rfl)) (pr_aS_c (pr_eI (os_aload_n (q := 1) dX14_begin_5)) (pr_aS_c (pr_eI (os_ldcS (tx := "Object") dX14_begin_6 (List.mem_of_getElem? (i := 4) rfl) (by decide))) (pr_aS_c (pr_eI (os_cs dX14_begin_8 (k := 16) rfl rfl cal_16 wd_178 wd_179)) (pr_aS_c (pr_eI (os_cv dX14_begin_11 (k := 93) rfl rfl cal_93 wd_180 wd_182 wd_181 rfl)) (pr_aS_c (pr_eI (os_aload_n (q := 1) dX14_begin_14)) (pr_aS_c (pr_eI (os_ldcS (tx := "Throw") dX14_begin_15 (List.mem_of_getElem? (i := 5) rfl) (by decide))) (pr_aS_c (pr_eI (os_cs dX14_begin_17 (k := 16) rfl rfl cal_16 wd_178 wd_179)) (pr_aS_c (pr_eI (os_cv dX14_begin_20 (k := 93) rfl rfl cal_93 wd_180 wd_182 wd_181 rfl)) (pr_aS_c (pr_eI (os_aload_n (q := 1) dX14_begin_23)) (pr_aS_c (pr_eI (os_ldcS (tx := "Except") dX14_begin_24 (List.mem_of_getElem? (i := 6) rfl) (by decide))) (pr_aS_c (pr_eI (os_cs dX14_begin_26 (k := 16) rfl rfl cal_16 wd_178 wd_179)) (pr_aS_c (pr_eI (os_cv dX14_begin_29 (k := 93) rfl rfl cal_93 wd_180 wd_182 wd_181 rfl)) (pr_aS_c (pr_eI (os_aload_n (q := 1) dX14_begin_32)) (pr_aS_c (pr_eI (os_ldcS (tx := "Run") dX14_begin_33 (List.mem_of_getElem? (i := 7) rfl) (by decide))) (pr_aS_c (pr_eI (os_cs dX14_begin_35 (k := 16) rfl rfl cal_16 wd_178 wd_179)) (pr_aS_c (pr_eI (os_cv dX14_begin_38 (k := 93) rfl rfl cal_93 wd_180 wd_182 wd_181 rfl)) (pr_aS_c (pr_eI (os_iconst dX14_begin_41 (by decide +kernel))) (pr_aS_c (pr_eI (os_istore_n (q := 3) dX14_begin_42 (by decide))) (pr_aS_c (pr_eI (os_iload_n (q := 3) dX14_begin_43)) (pr_aS_c (pr_eI (os_iconst dX14_begin_44 (by decide +kernel))) (pr_aS_c (pr_eI (os_icmp_gt dX14_begin_45 (by decide))) (pr_aS_c (pr_eI (os_iconst dX14_begin_48 (by decide +kernel))) (pr_aS_c (pr_eI (os_istore dX14_begin_49 (by decide))) (pr_aS_c (pr_eI (os_iload dX14_begin_51)) (pr_aS_c (pr_eI (os_iload_n (q := 3) dX14_begin_53)) (pr_aS_c (pr_eI (os_icmp_gt dX14_begin_54 (by decide))) (pr_aS_c (pr_eI (os_aload_n (q := 1) dX14_begin_57)) (pr_aS_c (pr_eI (os_get (kf := 4) dX14_begin_58 cf_12 (by decide) wd_183)) (pr_aS_c (pr_eI (os_bipush dX14_begin_61 (by decide +kernel))) (pr_aS_c (pr_eI (os_iload_n (q := 3) dX14_begin_63)) (pr_aS_c (pr_eI (os_imul dX14_begin_64)) (pr_aS_c (pr_eI (os_iload dX14_begin_65)) (pr_aS_c (pr_eI (os_iadd dX14_begin_67)) (pr_aS_c (pr_eI (os_aload_n (q := 2) dX14_begin_68)) (pr_aS_c (pr_eI (os_iconst dX14_begin_69 (by decide +kernel))) (pr_aS_c (pr_eI (os_iload dX14_begin_70)) (pr_aS_c (pr_eI (os_aload_n (q := 0) dX14_begin_72)) (pr_aS_c (pr_eI (os_get (kf := 3) dX14_begin_73 cf_14 (by decide) wd_126)) (pr_aS_c (pr_eI (os_iconst dX14_begin_76 (by decide +kernel))) (pr_aS_c (pr_eI (os_iconst dX14_begin_77 (by decide +kernel))) (pr_aS_c (pr_eI (os_cv dX14_begin_78 (k := 96) rfl rfl cal_96 wd_128 wd_130 wd_129 rfl)) (pr_aS_c (pr_eI (os_iast dX14_begin_81)) (pr_aS_c (pr_eI (os_iinc dX14_begin_82 (by decide +kernel) (by decide))) (pr_aS_c (pr_eI (os_goto dX14_begin_85 (by decide))) (pr_aS_c (pr_eI (os_iinc dX14_begin_88 (by decide +kernel) (by decide))) (pr_aS_c (pr_eI (os_goto dX14_begin_91 (by decide))) (pr_aS_c (pr_eR (rs_v dX14_begin_94 rfl)) trivial)))))))))))))))))))))))))))))))))))))))))))))))))
