/-! code tables (laid by a program) -/
theorem dX2_init_0 : decode cX2_init 0 = .ok (.aload_n 0, 1) := by decide +kernel
theorem dX2_init_1 : decode cX2_init 1 = .ok (.invokespecial 3, 3) := by decide +kernel
theorem dX2_init_4 : decode cX2_init 4 = .ok (.aload_n 0, 1) := by decide +kernel
theorem dX2_init_5 : decode cX2_init 5 = .ok (.sipush 160, 3) := by decide +kernel
theorem dX2_init_8 : decode cX2_init 8 = .ok (.newarray .int, 2) := by decide +kernel
theorem dX2_init_10 : decode cX2_init 10 = .ok (.putfield 9, 3) := by decide +kernel
theorem dX2_init_13 : decode cX2_init 13 = .ok (.aload_n 0, 1) := by decide +kernel
theorem dX2_init_14 : decode cX2_init 14 = .ok (.bipush 20, 2) := by decide +kernel
theorem dX2_init_16 : decode cX2_init 16 = .ok (.newarray .int, 2) := by decide +kernel
theorem dX2_init_18 : decode cX2_init 18 = .ok (.putfield 15, 3) := by decide +kernel
theorem dX2_init_21 : decode cX2_init 21 = .ok (.aload_n 0, 1) := by decide +kernel
theorem dX2_init_22 : decode cX2_init 22 = .ok (.bipush 64, 2) := by decide +kernel
theorem dX2_init_24 : decode cX2_init 24 = .ok (.newarray .int, 2) := by decide +kernel
theorem dX2_init_26 : decode cX2_init 26 = .ok (.putfield 18, 3) := by decide +kernel
theorem dX2_init_29 : decode cX2_init 29 = .ok (.aload_n 0, 1) := by decide +kernel
theorem dX2_init_30 : decode cX2_init 30 = .ok (.bipush 20, 2) := by decide +kernel
theorem dX2_init_32 : decode cX2_init 32 = .ok (.newarray .int, 2) := by decide +kernel
theorem dX2_init_34 : decode cX2_init 34 = .ok (.putfield 21, 3) := by decide +kernel
theorem dX2_init_37 : decode cX2_init 37 = .ok (.aload_n 0, 1) := by decide +kernel
theorem dX2_init_38 : decode cX2_init 38 = .ok (.sipush 400, 3) := by decide +kernel
theorem dX2_init_41 : decode cX2_init 41 = .ok (.newarray .int, 2) := by decide +kernel
theorem dX2_init_43 : decode cX2_init 43 = .ok (.putfield 24, 3) := by decide +kernel
theorem dX2_init_46 : decode cX2_init 46 = .ok (.aload_n 0, 1) := by decide +kernel
theorem dX2_init_47 : decode cX2_init 47 = .ok (.new 27, 3) := by decide +kernel
theorem dX2_init_50 : decode cX2_init 50 = .ok (.dup, 1) := by decide +kernel
theorem dX2_init_51 : decode cX2_init 51 = .ok (.sipush 128, 3) := by decide +kernel
theorem dX2_init_54 : decode cX2_init 54 = .ok (.invokespecial 29, 3) := by decide +kernel
theorem dX2_init_57 : decode cX2_init 57 = .ok (.putfield 32, 3) := by decide +kernel
theorem dX2_init_60 : decode cX2_init 60 = .ok (.iconst 2, 1) := by decide +kernel
theorem dX2_init_61 : decode cX2_init 61 = .ok (.istore_n 1, 1) := by decide +kernel
theorem dX2_init_62 : decode cX2_init 62 = .ok (.iload_n 1, 1) := by decide +kernel
theorem dX2_init_63 : decode cX2_init 63 = .ok (.bipush 20, 2) := by decide +kernel
theorem dX2_init_65 : decode cX2_init 65 = .ok (.if_icmp .gt 19, 3) := by decide +kernel
theorem dX2_init_68 : decode cX2_init 68 = .ok (.aload_n 0, 1) := by decide +kernel
theorem dX2_init_69 : decode cX2_init 69 = .ok (.getfield 18, 3) := by decide +kernel
theorem dX2_init_72 : decode cX2_init 72 = .ok (.bipush 32, 2) := by decide +kernel
theorem dX2_init_74 : decode cX2_init 74 = .ok (.iload_n 1, 1) := by decide +kernel
theorem dX2_init_75 : decode cX2_init 75 = .ok (.iadd, 1) := by decide +kernel
theorem dX2_init_76 : decode cX2_init 76 = .ok (.iload_n 1, 1) := by decide +kernel
theorem dX2_init_77 : decode cX2_init 77 = .ok (.iastore, 1) := by decide +kernel
theorem dX2_init_78 : decode cX2_init 78 = .ok (.iinc 1 1, 3) := by decide +kernel
theorem dX2_init_81 : decode cX2_init 81 = .ok (.goto (-19), 3) := by decide +kernel
theorem dX2_init_84 : decode cX2_init 84 = .ok (.aload_n 0, 1) := by decide +kernel
theorem dX2_init_85 : decode cX2_init 85 = .ok (.ldc 36, 2) := by decide +kernel
theorem dX2_init_87 : decode cX2_init 87 = .ok (.invokevirtual 38, 3) := by decide +kernel
theorem dX2_init_90 : decode cX2_init 90 = .ok (.aload_n 0, 1) := by decide +kernel
theorem dX2_init_91 : decode cX2_init 91 = .ok (.ldc 42, 2) := by decide +kernel
theorem dX2_init_93 : decode cX2_init 93 = .ok (.invokevirtual 38, 3) := by decide +kernel
theorem dX2_init_96 : decode cX2_init 96 = .ok (.aload_n 0, 1) := by decide +kernel
theorem dX2_init_97 : decode cX2_init 97 = .ok (.ldc 44, 2) := by decide +kernel
theorem dX2_init_99 : decode cX2_init 99 = .ok (.invokevirtual 38, 3) := by decide +kernel
theorem dX2_init_102 : decode cX2_init 102 = .ok (.aload_n 0, 1) := by decide +kernel
theorem dX2_init_103 : decode cX2_init 103 = .ok (.ldc 46, 2) := by decide +kernel
theorem dX2_init_105 : decode cX2_init 105 = .ok (.invokevirtual 38, 3) := by decide +kernel
theorem dX2_init_108 : decode cX2_init 108 = .ok (.aload_n 0, 1) := by decide +kernel
theorem dX2_init_109 : decode cX2_init 109 = .ok (.aload_n 0, 1) := by decide +kernel
theorem dX2_init_110 : decode cX2_init 110 = .ok (.getfield 48, 3) := by decide +kernel
theorem dX2_init_113 : decode cX2_init 113 = .ok (.putfield 52, 3) := by decide +kernel
theorem dX2_init_116 : decode cX2_init 116 = .ok (.aload_n 0, 1) := by decide +kernel
theorem dX2_init_117 : decode cX2_init 117 = .ok (.aload_n 0, 1) := by decide +kernel
theorem dX2_init_118 : decode cX2_init 118 = .ok (.getfield 32, 3) := by decide +kernel
theorem dX2_init_121 : decode cX2_init 121 = .ok (.invokevirtual 55, 3) := by decide +kernel
theorem dX2_init_124 : decode cX2_init 124 = .ok (.putfield 59, 3) := by decide +kernel
theorem dX2_init_127 : decode cX2_init 127 = .ok (.return_, 1) := by decide +kernel
/-- InferResolve$Kinds.<init>()V -/
noncomputable def qc_54 : pr_Co := [(0, (.inl (po_aload 0 1))), (1, (.inl (po_oi 4))), (4, (.inl (po_aload 0 5))), (5, (.inl (po_push 160 8))), (8, (.inl (po_newI 10))), (10, (.inl (po_putr 2 0 13))), (13, (.inl (po_aload 0 14))), (14, (.inl (po_push 20 16))), (16, (.inl (po_newI 18))), (18, (.inl (po_putr 2 1 21))), (21, (.inl (po_aload 0 22))), (22, (.inl (po_push 64 24))), (24, (.inl (po_newI 26))), (26, (.inl (po_putr 2 2 29))), (29, (.inl (po_aload 0 30))), (30, (.inl (po_push 20 32))), (32, (.inl (po_newI 34))), (34, (.inl (po_putr 2 3 37))), (37, (.inl (po_aload 0 38))), (38, (.inl (po_push 400 41))), (41, (.inl (po_newI 43))), (43, (.inl (po_putr 2 4 46))), (46, (.inl (po_aload 0 47))), (47, (.inl (po_new 7 [.null, .int 0] 50))), (50, (.inl (po_dup 51))), (51, (.inl (po_push 128 54))), (54, (.inl (po_ci 78 1 2 57))), (57, (.inl (po_putr 2 5 60))), (60, (.inl (po_push 2 61))), (61, (.inl (po_istore 1 62))), (62, (.inl (po_iload 1 63))), (63, (.inl (po_push 20 65))), (65, (.inl (po_if2 (fun x y => decide (y < x)) 84 68))), (68, (.inl (po_aload 0 69))), (69, (.inl (po_get 2 2 72))), (72, (.inl (po_push 32 74))), (74, (.inl (po_iload 1 75))), (75, (.inl (po_i2 (fun x y => x + y) 76))), (76, (.inl (po_iload 1 77))), (77, (.inl (po_iast 78))), (78, (.inl (po_iinc 1 1 81))), (81, (.inl (po_goto 62))), (84, (.inl (po_aload 0 85))), (85, (.inl (po_mark 0 87))), (87, (.inl (po_cv 55 1 2 3 90))), (90, (.inl (po_aload 0 91))), (91, (.inl (po_mark 1 93))), (93, (.inl (po_cv 55 1 2 3 96))), (96, (.inl (po_aload 0 97))), (97, (.inl (po_mark 2 99))), (99, (.inl (po_cv 55 1 2 3 102))), (102, (.inl (po_aload 0 103))), (103, (.inl (po_mark 3 105))), (105, (.inl (po_cv 55 1 2 3 108))), (108, (.inl (po_aload 0 109))), (109, (.inl (po_aload 0 110))), (110, (.inl (po_get 2 6 113))), (113, (.inl (po_puti 2 7 116))), (116, (.inl (po_aload 0 117))), (117, (.inl (po_aload 0 118))), (118, (.inl (po_get 2 5 121))), (121, (.inl (po_cv 79 0 7 1 124))), (124, (.inl (po_puti 2 8 127))), (127, (.inr (re_v)))]
set_option maxRecDepth 100000 in
set_option maxHeartbeats 4000000 in
theorem qs_54 : pr_aS pr_ms m_54 [(0, (.inl (po_aload 0 1))), (1, (.inl (po_oi 4))), (4, (.inl (po_aload 0 5))), (5, (.inl (po_push 160 8))), (8, (.inl (po_newI 10))), (10, (.inl (po_putr 2 0 13))), (13, (.inl (po_aload 0 14))), (14, (.inl (po_push 20 16))), (16, (.inl (po_newI 18))), (18, (.inl (po_putr 2 1 21))), (21, (.inl (po_aload 0 22))), (22, (.inl (po_push 64 24))), (24, (.inl (po_newI 26))), (26, (.inl (po_putr 2 2 29))), (29, (.inl (po_aload 0 30))), (30, (.inl (po_push 20 32))), (32, (.inl (po_newI 34))), (34, (.inl (po_putr 2 3 37))), (37, (.inl (po_aload 0 38))), (38, (.inl (po_push 400 41))), (41, (.inl (po_newI 43))), (43, (.inl (po_putr 2 4 46))), (46, (.inl (po_aload 0 47))), (47, (.inl (po_new 7 [.null, .int 0] 50))), (50, (.inl (po_dup 51))), (51, (.inl (po_push 128 54))), (54, (.inl (po_ci 78 1 2 57))), (57, (.inl (po_putr 2 5 60))), (60, (.inl (po_push 2 61))), (61, (.inl (po_istore 1 62))), (62, (.inl (po_iload 1 63))), (63, (.inl (po_push 20 65))), (65, (.inl (po_if2 (fun x y => decide (y < x)) 84 68))), (68, (.inl (po_aload 0 69))), (69, (.inl (po_get 2 2 72))), (72, (.inl (po_push 32 74))), (74, (.inl (po_iload 1 75))), (75, (.inl (po_i2 (fun x y => x + y) 76))), (76, (.inl (po_iload 1 77))), (77, (.inl (po_iast 78))), (78, (.inl (po_iinc 1 1 81))), (81, (.inl (po_goto 62))), (84, (.inl (po_aload 0 85))), (85, (.inl (po_mark 0 87))), (87, (.inl (po_cv 55 1 2 3 90))), (90, (.inl (po_aload 0 91))), (91, (.inl (po_mark 1 93))), (93, (.inl (po_cv 55 1 2 3 96))), (96, (.inl (po_aload 0 97))), (97, (.inl (po_mark 2 99))), (99, (.inl (po_cv 55 1 2 3 102))), (102, (.inl (po_aload 0 103))), (103, (.inl (po_mark 3 105))), (105, (.inl (po_cv 55 1 2 3 108))), (108, (.inl (po_aload 0 109))), (109, (.inl (po_aload 0 110))), (110, (.inl (po_get 2 6 113))), (113, (.inl (po_puti 2 7 116))), (116, (.inl (po_aload 0 117))), (117, (.inl (po_aload 0 118))), (118, (.inl (po_get 2 5 121))), (121, (.inl (po_cv 79 0 7 1 124))), (124, (.inl (po_puti 2 8 127))), (127, (.inr (re_v)))] := pr_aS_c (pr_eI (os_aload_n (q := 0) dX2_init_0)) (pr_aS_c (pr_eI (os_oi dX2_init_1 wd_308 wd_1 wd_2)) (pr_aS_c (pr_eI (os_aload_n (q := 0) dX2_init_4)) (pr_aS_c (pr_eI (os_sipush dX2_init_5 (by decide +kernel))) (pr_aS_c (pr_eI (os_newI dX2_init_8 wd_138)) (pr_aS_c (pr_eI (os_putrF (kf := 0) dX2_init_10 cf_2 (by decide) wd_309 rfl rfl rfl (Or.inr ⟨_, rfl⟩))) (pr_aS_c (pr_eI (os_aload_n (q := 0) dX2_init_13)) (pr_aS_c (pr_eI (os_bipush dX2_init_14 (by decide +kernel))) (pr_aS_c (pr_eI (os_newI dX2_init_16 wd_138)) (pr_aS_c (pr_eI (os_putrF (kf := 1) dX2_init_18 cf_2 (by decide) wd_310 rfl rfl rfl (Or.inr ⟨_, rfl⟩))) (pr_aS_c (pr_eI (os_aload_n (q := 0) dX2_init_21)) (pr_aS_c (pr_eI (os_bipush dX2_init_22 (by decide +kernel))) (pr_aS_c (pr_eI (os_newI dX2_init_24 wd_138)) (pr_aS_c (pr_eI (os_putrF (kf := 2) dX2_init_26 cf_2 (by decide) wd_311 rfl rfl rfl (Or.inr ⟨_, rfl⟩))) (pr_aS_c (pr_eI (os_aload_n (q := 0) dX2_init_29)) (pr_aS_c (pr_eI (os_bipush dX2_init_30 (by decide +kernel))) (pr_aS_c (pr_eI (os_newI dX2_init_32 wd_138)) (pr_aS_c (pr_eI (os_putrF (kf := 3) dX2_init_34 cf_2 (by decide) wd_312 rfl rfl rfl (Or.inr ⟨_, rfl⟩))) (pr_aS_c (pr_eI (os_aload_n (q := 0) dX2_init_37)) (pr_aS_c (pr_eI (os_sipush dX2_init_38 (by decide +kernel))) (pr_aS_c (pr_eI (os_newI dX2_init_41 wd_138)) (pr_aS_c (pr_eI (os_putrF (kf := 4) dX2_init_43 cf_2 (by decide) wd_313 rfl rfl rfl (Or.inr ⟨_, rfl⟩))) (pr_aS_c (pr_eI (os_aload_n (q := 0) dX2_init_46)) (pr_aS_c (pr_eI (os_new dX2_init_47 cf_7 wd_314 wd_4 wd_5 (by decide +kernel))) (pr_aS_c (pr_eI (os_dup dX2_init_50)) (pr_aS_c (pr_eI (os_sipush dX2_init_51 (by decide +kernel))) (pr_aS_c (pr_eI (os_ci dX2_init_54 (k := 78) rfl rfl cal_78 wd_315 wd_7 rfl rfl)) (pr_aS_c (pr_eI (os_putrF (kf := 5) dX2_init_57 cf_2 (by decide) wd_316 rfl rfl rfl (Or.inl ⟨_, rfl⟩))) (pr_aS_c (pr_eI (os_iconst dX2_init_60 (by decide +kernel))) (pr_aS_c (pr_eI (os_istore_n (q := 1) dX2_init_61 (by decide))) (pr_aS_c (pr_eI (os_iload_n (q := 1) dX2_init_62)) (pr_aS_c (pr_eI (os_bipush dX2_init_63 (by decide +kernel))) (pr_aS_c (pr_eI (os_icmp_gt dX2_init_65 (by decide))) (pr_aS_c (pr_eI (os_aload_n (q := 0) dX2_init_68)) (pr_aS_c (pr_eI (os_get (kf := 2) dX2_init_69 cf_2 (by decide) wd_311)) (pr_aS_c (pr_eI (os_bipush dX2_init_72 (by decide +kernel))) (pr_aS_c (pr_eI (os_iload_n (q := 1) dX2_init_74)) (pr_aS_c (pr_eI (os_iadd dX2_init_75)) (pr_aS_c (pr_eI (os_iload_n (q := 1) dX2_init_76)) (pr_aS_c (pr_eI (os_iast dX2_init_77)) (pr_aS_c (pr_eI (os_iinc dX2_init_78 (by decide +kernel) (by decide))) (pr_aS_c (pr_eI (os_goto dX2_init_81 (by decide))) (pr_aS_c (pr_eI (os_aload_n (q := 0) dX2_init_84)) (pr_aS_c (pr_eI (os_ldcS (tx := "Object") dX2_init_85 (List.mem_of_getElem? (i := 0) rfl) (by decide))) (pr_aS_c (pr_eI (os_cv dX2_init_87 (k := 55) rfl rfl cal_55 wd_317 wd_319 wd_318 rfl)) (pr_aS_c (pr_eI (os_aload_n (q := 0) dX2_init_90)) (pr_aS_c (pr_eI (os_ldcS (tx := "Throw") dX2_init_91 (List.mem_of_getElem? (i := 1) rfl) (by decide))) (pr_aS_c (pr_eI (os_cv dX2_init_93 (k := 55) rfl rfl cal_55 wd_317 wd_319 wd_318 rfl)) (pr_aS_c (pr_eI (os_aload_n (q := 0) dX2_init_96)) (pr_aS_c (pr_eI (os_ldcS (tx := "Except") dX2_init_97 (List.mem_of_getElem? (i := 2) rfl) (by decide))) (pr_aS_c (pr_eI (os_cv dX2_init_99 (k := 55) rfl rfl cal_55 wd_317 wd_319 wd_318 rfl)) (pr_aS_c (pr_eI (os_aload_n (q := 0) dX2_init_102)) (pr_aS_c (pr_eI (os_ldcS (tx := "Run") dX2_init_103 (List.mem_of_getElem? (i := 3) rfl) (by decide))) (pr_aS_c (pr_eI (os_cv dX2_init_105 (k := 55) rfl rfl cal_55 wd_317 wd_319 wd_318 rfl)) (pr_aS_c (pr_eI (os_aload_n (q := 0) dX2_init_108)) (pr_aS_c (pr_eI (os_aload_n (q := 0) dX2_init_109)) (pr_aS_c (pr_eI (os_get (kf := 6) dX2_init_110 cf_2 (by decide) wd_320)) (pr_aS_c (pr_eI (os_putiF (kf := 7) dX2_init_113 cf_2 (by decide) wd_321 rfl rfl rfl rfl)) (pr_aS_c (pr_eI (os_aload_n (q := 0) dX2_init_116)) (pr_aS_c (pr_eI (os_aload_n (q := 0) dX2_init_117)) (pr_aS_c (pr_eI (os_get (kf := 5) dX2_init_118 cf_2 (by decide) wd_316)) (pr_aS_c (pr_eI (os_cv dX2_init_121 (k := 79) rfl rfl cal_79 wd_322 wd_102 wd_101 rfl)) (pr_aS_c (pr_eI (os_putiF (kf := 8) dX2_init_124 cf_2 (by decide) wd_323 rfl rfl rfl rfl)) (pr_aS_c (pr_eR (rs_v dX2_init_127 rfl)) trivial)))))))))))))))))))))))))))))))))))))))))))))))))))))))))))))))
theorem dX2_addFirst_0 : decode cX2_addFirst 0 = .ok (.iconst 0, 1) := by decide +kernel
theorem dX2_addFirst_1 : decode cX2_addFirst 1 = .ok (.istore_n 2, 1) := by decide +kernel
theorem dX2_addFirst_2 : decode cX2_addFirst 2 = .ok (.iload_n 2, 1) := by decide +kernel
theorem dX2_addFirst_3 : decode cX2_addFirst 3 = .ok (.aload_n 1, 1) := by decide +kernel
theorem dX2_addFirst_4 : decode cX2_addFirst 4 = .ok (.invokevirtual 62, 3) := by decide +kernel
theorem dX2_addFirst_7 : decode cX2_addFirst 7 = .ok (.if_icmp .ge 18, 3) := by decide +kernel
theorem dX2_addFirst_10 : decode cX2_addFirst 10 = .ok (.aload_n 0, 1) := by decide +kernel
theorem dX2_addFirst_11 : decode cX2_addFirst 11 = .ok (.aload_n 1, 1) := by decide +kernel
theorem dX2_addFirst_12 : decode cX2_addFirst 12 = .ok (.iload_n 2, 1) := by decide +kernel
theorem dX2_addFirst_13 : decode cX2_addFirst 13 = .ok (.invokevirtual 67, 3) := by decide +kernel
theorem dX2_addFirst_16 : decode cX2_addFirst 16 = .ok (.invokevirtual 71, 3) := by decide +kernel
theorem dX2_addFirst_19 : decode cX2_addFirst 19 = .ok (.iinc 2 1, 3) := by decide +kernel
theorem dX2_addFirst_22 : decode cX2_addFirst 22 = .ok (.goto (-20), 3) := by decide +kernel
theorem dX2_addFirst_25 : decode cX2_addFirst 25 = .ok (.iconst 0, 1) := by decide +kernel
theorem dX2_addFirst_26 : decode cX2_addFirst 26 = .ok (.istore_n 2, 1) := by decide +kernel
theorem dX2_addFirst_27 : decode cX2_addFirst 27 = .ok (.iload_n 2, 1) := by decide +kernel
theorem dX2_addFirst_28 : decode cX2_addFirst 28 = .ok (.aload_n 0, 1) := by decide +kernel
theorem dX2_addFirst_29 : decode cX2_addFirst 29 = .ok (.getfield 48, 3) := by decide +kernel
theorem dX2_addFirst_32 : decode cX2_addFirst 32 = .ok (.if_icmp .gt 22, 3) := by decide +kernel
theorem dX2_addFirst_35 : decode cX2_addFirst 35 = .ok (.aload_n 0, 1) := by decide +kernel
theorem dX2_addFirst_36 : decode cX2_addFirst 36 = .ok (.iload_n 2, 1) := by decide +kernel
theorem dX2_addFirst_37 : decode cX2_addFirst 37 = .ok (.invokevirtual 74, 3) := by decide +kernel
theorem dX2_addFirst_40 : decode cX2_addFirst 40 = .ok (.aload_n 0, 1) := by decide +kernel
theorem dX2_addFirst_41 : decode cX2_addFirst 41 = .ok (.getfield 32, 3) := by decide +kernel
theorem dX2_addFirst_44 : decode cX2_addFirst 44 = .ok (.iload_n 2, 1) := by decide +kernel
theorem dX2_addFirst_45 : decode cX2_addFirst 45 = .ok (.invokevirtual 77, 3) := by decide +kernel
theorem dX2_addFirst_48 : decode cX2_addFirst 48 = .ok (.iinc 2 1, 3) := by decide +kernel
theorem dX2_addFirst_51 : decode cX2_addFirst 51 = .ok (.goto (-24), 3) := by decide +kernel
theorem dX2_addFirst_54 : decode cX2_addFirst 54 = .ok (.aload_n 0, 1) := by decide +kernel
theorem dX2_addFirst_55 : decode cX2_addFirst 55 = .ok (.dup, 1) := by decide +kernel
theorem dX2_addFirst_56 : decode cX2_addFirst 56 = .ok (.getfield 48, 3) := by decide +kernel
theorem dX2_addFirst_59 : decode cX2_addFirst 59 = .ok (.iconst 1, 1) := by decide +kernel
theorem dX2_addFirst_60 : decode cX2_addFirst 60 = .ok (.iadd, 1) := by decide +kernel
theorem dX2_addFirst_61 : decode cX2_addFirst 61 = .ok (.putfield 48, 3) := by decide +kernel
theorem dX2_addFirst_64 : decode cX2_addFirst 64 = .ok (.return_, 1) := by decide +kernel
/-- InferResolve$Kinds.addFirst(Ljava/lang/String;)V -/
noncomputable def qc_55 : pr_Co := [(0, (.inl (po_push 0 1))), (1, (.inl (po_istore 2 2))), (2, (.inl (po_iload 2 3))), (3, (.inl (po_aloadM 1 4))), (4, (.inl (po_ct 98 0 1 7))), (7, (.inl (po_if2 (fun x y => decide (y ≤ x)) 25 10))), (10, (.inl (po_aload 0 11))), (11, (.inl (po_aloadM 1 12))), (12, (.inl (po_iload 2 13))), (13, (.inl (po_ct 100 1 2 16))), (16, (.inl (po_cv 59 1 2 2 19))), (19, (.inl (po_iinc 2 1 22))), (22, (.inl (po_goto 2))), (25, (.inl (po_push 0 26))), (26, (.inl (po_istore 2 27))), (27, (.inl (po_iload 2 28))), (28, (.inl (po_aload 0 29))), (29, (.inl (po_get 2 6 32))), (32, (.inl (po_if2 (fun x y => decide (y < x)) 54 35))), (35, (.inl (po_aload 0 36))), (36, (.inl (po_iload 2 37))), (37, (.inl (po_cv 60 1 2 2 40))), (40, (.inl (po_aload 0 41))), (41, (.inl (po_get 2 5 44))), (44, (.inl (po_iload 2 45))), (45, (.inl (po_cv 81 1 7 2 48))), (48, (.inl (po_iinc 2 1 51))), (51, (.inl (po_goto 27))), (54, (.inl (po_aload 0 55))), (55, (.inl (po_dup 56))), (56, (.inl (po_get 2 6 59))), (59, (.inl (po_push 1 60))), (60, (.inl (po_i2 (fun x y => x + y) 61))), (61, (.inl (po_puti 2 6 64))), (64, (.inr (re_v)))]
set_option maxRecDepth 100000 in
set_option maxHeartbeats 4000000 in
theorem qs_55 : pr_aS pr_ms m_55 [(0, (.inl (po_push 0 1))), (1, (.inl (po_istore 2 2))), (2, (.inl (po_iload 2 3))), (3, (.inl (po_aloadM 1 4))), (4, (.inl (po_ct 98 0 1 7))), (7, (.inl (po_if2 (fun x y => decide (y ≤ x)) 25 10))), (10, (.inl (po_aload 0 11))), (11, (.inl (po_aloadM 1 12))), (12, (.inl (po_iload 2 13))), (13, (.inl (po_ct 100 1 2 16))), (16, (.inl (po_cv 59 1 2 2 19))), (19, (.inl (po_iinc 2 1 22))), (22, (.inl (po_goto 2))), (25, (.inl (po_push 0 26))), (26, (.inl (po_istore 2 27))), (27, (.inl (po_iload 2 28))), (28, (.inl (po_aload 0 29))), (29, (.inl (po_get 2 6 32))), (32, (.inl (po_if2 (fun x y => decide (y < x)) 54 35))), (35, (.inl (po_aload 0 36))), (36, (.inl (po_iload 2 37))), (37, (.inl (po_cv 60 1 2 2 40))), (40, (.inl (po_aload 0 41))), (41, (.inl (po_get 2 5 44))), (44, (.inl (po_iload 2 45))), (45, (.inl (po_cv 81 1 7 2 48))), (48, (.inl (po_iinc 2 1 51))), (51, (.inl (po_goto 27))), (54, (.inl (po_aload 0 55))), (55, (.inl (po_dup 56))), (56, (.inl (po_get 2 6 59))), (59, (.inl (po_push 1 60))), (60, (.inl (po_i2 (fun x y => x + y) 61))), (61, (.inl (po_puti 2 6 64))), (64, (.inr (re_v)))] := pr_aS_c (pr_eI (os_iconst dX2_addFirst_0 (by decide +kernel))) (pr_aS_c (pr_eI (os_istore_n (q := 2) dX2_addFirst_1 (by decide))) (pr_aS_c (pr_eI (os_iload_n (q := 2) dX2_addFirst_2)) (pr_aS_c (pr_eI (os_aloadM_n (q := 1) dX2_addFirst_3)) (pr_aS_c (pr_eI (os_ct dX2_addFirst_4 (k := 98) rfl rfl cal_98 wd_324 wd_173 wd_172 rfl)) (pr_aS_c (pr_eI (os_icmp_ge dX2_addFirst_7 (by decide))) (pr_aS_c (pr_eI (os_aload_n (q := 0) dX2_addFirst_10)) (pr_aS_c (pr_eI (os_aloadM_n (q := 1) dX2_addFirst_11)) (pr_aS_c (pr_eI (os_iload_n (q := 2) dX2_addFirst_12)) (pr_aS_c (pr_eI (os_ct dX2_addFirst_13 (k := 100) rfl rfl cal_100 wd_325 wd_176 wd_175 rfl)) (pr_aS_c (pr_eI (os_cv dX2_addFirst_16 (k := 59) rfl rfl cal_59 wd_326 wd_328 wd_327 rfl)) (pr_aS_c (pr_eI (os_iinc dX2_addFirst_19 (by decide +kernel) (by decide))) (pr_aS_c (pr_eI (os_goto dX2_addFirst_22 (by decide))) (pr_aS_c (pr_eI (os_iconst dX2_addFirst_25 (by decide +kernel))) (pr_aS_c (pr_eI (os_istore_n (q := 2) dX2_addFirst_26 (by decide))) (pr_aS_c (pr_eI (os_iload_n (q := 2) dX2_addFirst_27)) (pr_aS_c (pr_eI (os_aload_n (q := 0) dX2_addFirst_28)) (pr_aS_c (pr_eI (os_get (kf := 6) dX2_addFirst_29 cf_2 (by decide) wd_320)) (pr_aS_c (pr_eI (os_icmp_gt dX2_addFirst_32 (by decide))) (pr_aS_c (pr_eI (os_aload_n (q := 0) dX2_addFirst_35)) (pr_aS_c (pr_eI (os_iload_n (q := 2) dX2_addFirst_36)) (pr_aS_c (pr_eI (os_cv dX2_addFirst_37 (k := 60) rfl rfl cal_60 wd_329 wd_331 wd_330 rfl)) (pr_aS_c (pr_eI (os_aload_n (q := 0) dX2_addFirst_40)) (pr_aS_c (pr_eI (os_get (kf := 5) dX2_addFirst_41 cf_2 (by decide) wd_316)) (pr_aS_c (pr_eI (os_iload_n (q := 2) dX2_addFirst_44)) (pr_aS_c (pr_eI (os_cv dX2_addFirst_45 (k := 81) rfl rfl cal_81 wd_332 wd_334 wd_333 rfl)) (pr_aS_c (pr_eI (os_iinc dX2_addFirst_48 (by decide +kernel) (by decide))) (pr_aS_c (pr_eI (os_goto dX2_addFirst_51 (by decide))) (pr_aS_c (pr_eI (os_aload_n (q := 0) dX2_addFirst_54)) (pr_aS_c (pr_eI (os_dup dX2_addFirst_55)) (pr_aS_c (pr_eI (os_get (kf := 6) dX2_addFirst_56 cf_2 (by decide) wd_320)) (pr_aS_c (pr_eI (os_iconst dX2_addFirst_59 (by decide +kernel))) (pr_aS_c (pr_eI (os_iadd dX2_addFirst_60)) (pr_aS_c (pr_eI (os_puti (kf := 6) dX2_addFirst_61 cf_2 (by decide) wd_320 rfl rfl)) (pr_aS_c (pr_eR (rs_v dX2_addFirst_64 rfl)) trivial))))))))))))))))))))))))))))))))))
theorem dX2_count_0 : decode cX2_count 0 = .ok (.aload_n 0, 1) := by decide +kernel
theorem dX2_count_1 : decode cX2_count 1 = .ok (.getfield 48, 3) := by decide +kernel
theorem dX2_count_4 : decode cX2_count 4 = .ok (.ireturn, 1) := by decide +kernel
/-- InferResolve$Kinds.count()I -/
noncomputable def qc_56 : pr_Co := [(0, (.inl (po_aload 0 1))), (1, (.inl (po_get 2 6 4))), (4, (.inr (re_i)))]
set_option maxRecDepth 100000 in
set_option maxHeartbeats 4000000 in
theorem qs_56 : pr_aS pr_ms m_56 [(0, (.inl (po_aload 0 1))), (1, (.inl (po_get 2 6 4))), (4, (.inr (re_i)))] := pr_aS_c (pr_eI (os_aload_n (q := 0) dX2_count_0)) (pr_aS_c (pr_eI (os_get (kf := 6) dX2_count_1 cf_2 (by decide) wd_320)) (pr_aS_c (pr_eR (rs_i dX2_count_4 rfl)) trivial))
theorem dX2_startAnew_0 : decode cX2_startAnew 0 = .ok (.aload_n 0, 1) := by decide +kernel
theorem dX2_startAnew_1 : decode cX2_startAnew 1 = .ok (.aload_n 0, 1) := by decide +kernel
theorem dX2_startAnew_2 : decode cX2_startAnew 2 = .ok (.getfield 52, 3) := by decide +kernel
theorem dX2_startAnew_5 : decode cX2_startAnew 5 = .ok (.putfield 48, 3) := by decide +kernel
theorem dX2_startAnew_8 : decode cX2_startAnew 8 = .ok (.aload_n 0, 1) := by decide +kernel
theorem dX2_startAnew_9 : decode cX2_startAnew 9 = .ok (.getfield 32, 3) := by decide +kernel
theorem dX2_startAnew_12 : decode cX2_startAnew 12 = .ok (.aload_n 0, 1) := by decide +kernel
theorem dX2_startAnew_13 : decode cX2_startAnew 13 = .ok (.getfield 59, 3) := by decide +kernel
theorem dX2_startAnew_16 : decode cX2_startAnew 16 = .ok (.invokevirtual 80, 3) := by decide +kernel
theorem dX2_startAnew_19 : decode cX2_startAnew 19 = .ok (.return_, 1) := by decide +kernel
/-- InferResolve$Kinds.startAnew()V -/
noncomputable def qc_57 : pr_Co := [(0, (.inl (po_aload 0 1))), (1, (.inl (po_aload 0 2))), (2, (.inl (po_get 2 7 5))), (5, (.inl (po_puti 2 6 8))), (8, (.inl (po_aload 0 9))), (9, (.inl (po_get 2 5 12))), (12, (.inl (po_aload 0 13))), (13, (.inl (po_get 2 8 16))), (16, (.inl (po_cv 83 1 7 2 19))), (19, (.inr (re_v)))]
set_option maxRecDepth 100000 in
set_option maxHeartbeats 4000000 in
theorem qs_57 : pr_aS pr_ms m_57 [(0, (.inl (po_aload 0 1))), (1, (.inl (po_aload 0 2))), (2, (.inl (po_get 2 7 5))), (5, (.inl (po_puti 2 6 8))), (8, (.inl (po_aload 0 9))), (9, (.inl (po_get 2 5 12))), (12, (.inl (po_aload 0 13))), (13, (.inl (po_get 2 8 16))), (16, (.inl (po_cv 83 1 7 2 19))), (19, (.inr (re_v)))] := pr_aS_c (pr_eI (os_aload_n (q := 0) dX2_startAnew_0)) (pr_aS_c (pr_eI (os_aload_n (q := 0) dX2_startAnew_1)) (pr_aS_c (pr_eI (os_get (kf := 7) dX2_startAnew_2 cf_2 (by decide) wd_321)) (pr_aS_c (pr_eI (os_puti (kf := 6) dX2_startAnew_5 cf_2 (by decide) wd_320 rfl rfl)) (pr_aS_c (pr_eI (os_aload_n (q := 0) dX2_startAnew_8)) (pr_aS_c (pr_eI (os_get (kf := 5) dX2_startAnew_9 cf_2 (by decide) wd_316)) (pr_aS_c (pr_eI (os_aload_n (q := 0) dX2_startAnew_12)) (pr_aS_c (pr_eI (os_get (kf := 8) dX2_startAnew_13 cf_2 (by decide) wd_323)) (pr_aS_c (pr_eI (os_cv dX2_startAnew_16 (k := 83) rfl rfl cal_83 wd_335 wd_116 wd_115 rfl)) (pr_aS_c (pr_eR (rs_v dX2_startAnew_19 rfl)) trivial)))))))))
theorem dX2_takeFrom_0 : decode cX2_takeFrom 0 = .ok (.aload_n 1, 1) := by decide +kernel
theorem dX2_takeFrom_1 : decode cX2_takeFrom 1 = .ok (.getfield 9, 3) := by decide +kernel
theorem dX2_takeFrom_4 : decode cX2_takeFrom 4 = .ok (.iconst 0, 1) := by decide +kernel
theorem dX2_takeFrom_5 : decode cX2_takeFrom 5 = .ok (.aload_n 0, 1) := by decide +kernel
theorem dX2_takeFrom_6 : decode cX2_takeFrom 6 = .ok (.getfield 9, 3) := by decide +kernel
theorem dX2_takeFrom_9 : decode cX2_takeFrom 9 = .ok (.iconst 0, 1) := by decide +kernel
theorem dX2_takeFrom_10 : decode cX2_takeFrom 10 = .ok (.aload_n 0, 1) := by decide +kernel
theorem dX2_takeFrom_11 : decode cX2_takeFrom 11 = .ok (.getfield 9, 3) := by decide +kernel
theorem dX2_takeFrom_14 : decode cX2_takeFrom 14 = .ok (.arraylength, 1) := by decide +kernel
theorem dX2_takeFrom_15 : decode cX2_takeFrom 15 = .ok (.invokestatic 83, 3) := by decide +kernel
theorem dX2_takeFrom_18 : decode cX2_takeFrom 18 = .ok (.aload_n 1, 1) := by decide +kernel
theorem dX2_takeFrom_19 : decode cX2_takeFrom 19 = .ok (.getfield 15, 3) := by decide +kernel
theorem dX2_takeFrom_22 : decode cX2_takeFrom 22 = .ok (.iconst 0, 1) := by decide +kernel
theorem dX2_takeFrom_23 : decode cX2_takeFrom 23 = .ok (.aload_n 0, 1) := by decide +kernel
theorem dX2_takeFrom_24 : decode cX2_takeFrom 24 = .ok (.getfield 15, 3) := by decide +kernel
theorem dX2_takeFrom_27 : decode cX2_takeFrom 27 = .ok (.iconst 0, 1) := by decide +kernel
theorem dX2_takeFrom_28 : decode cX2_takeFrom 28 = .ok (.aload_n 0, 1) := by decide +kernel
theorem dX2_takeFrom_29 : decode cX2_takeFrom 29 = .ok (.getfield 15, 3) := by decide +kernel
theorem dX2_takeFrom_32 : decode cX2_takeFrom 32 = .ok (.arraylength, 1) := by decide +kernel
theorem dX2_takeFrom_33 : decode cX2_takeFrom 33 = .ok (.invokestatic 83, 3) := by decide +kernel
theorem dX2_takeFrom_36 : decode cX2_takeFrom 36 = .ok (.aload_n 1, 1) := by decide +kernel
theorem dX2_takeFrom_37 : decode cX2_takeFrom 37 = .ok (.getfield 18, 3) := by decide +kernel
theorem dX2_takeFrom_40 : decode cX2_takeFrom 40 = .ok (.iconst 0, 1) := by decide +kernel
theorem dX2_takeFrom_41 : decode cX2_takeFrom 41 = .ok (.aload_n 0, 1) := by decide +kernel
theorem dX2_takeFrom_42 : decode cX2_takeFrom 42 = .ok (.getfield 18, 3) := by decide +kernel
theorem dX2_takeFrom_45 : decode cX2_takeFrom 45 = .ok (.iconst 0, 1) := by decide +kernel
theorem dX2_takeFrom_46 : decode cX2_takeFrom 46 = .ok (.aload_n 0, 1) := by decide +kernel
theorem dX2_takeFrom_47 : decode cX2_takeFrom 47 = .ok (.getfield 18, 3) := by decide +kernel
theorem dX2_takeFrom_50 : decode cX2_takeFrom 50 = .ok (.arraylength, 1) := by decide +kernel
theorem dX2_takeFrom_51 : decode cX2_takeFrom 51 = .ok (.invokestatic 83, 3) := by decide +kernel
theorem dX2_takeFrom_54 : decode cX2_takeFrom 54 = .ok (.aload_n 1, 1) := by decide +kernel
theorem dX2_takeFrom_55 : decode cX2_takeFrom 55 = .ok (.getfield 21, 3) := by decide +kernel
theorem dX2_takeFrom_58 : decode cX2_takeFrom 58 = .ok (.iconst 0, 1) := by decide +kernel
theorem dX2_takeFrom_59 : decode cX2_takeFrom 59 = .ok (.aload_n 0, 1) := by decide +kernel
theorem dX2_takeFrom_60 : decode cX2_takeFrom 60 = .ok (.getfield 21, 3) := by decide +kernel
theorem dX2_takeFrom_63 : decode cX2_takeFrom 63 = .ok (.iconst 0, 1) := by decide +kernel
theorem dX2_takeFrom_64 : decode cX2_takeFrom 64 = .ok (.aload_n 0, 1) := by decide +kernel
theorem dX2_takeFrom_65 : decode cX2_takeFrom 65 = .ok (.getfield 21, 3) := by decide +kernel
theorem dX2_takeFrom_68 : decode cX2_takeFrom 68 = .ok (.arraylength, 1) := by decide +kernel
theorem dX2_takeFrom_69 : decode cX2_takeFrom 69 = .ok (.invokestatic 83, 3) := by decide +kernel
theorem dX2_takeFrom_72 : decode cX2_takeFrom 72 = .ok (.aload_n 1, 1) := by decide +kernel
theorem dX2_takeFrom_73 : decode cX2_takeFrom 73 = .ok (.getfield 24, 3) := by decide +kernel
theorem dX2_takeFrom_76 : decode cX2_takeFrom 76 = .ok (.iconst 0, 1) := by decide +kernel
theorem dX2_takeFrom_77 : decode cX2_takeFrom 77 = .ok (.aload_n 0, 1) := by decide +kernel
theorem dX2_takeFrom_78 : decode cX2_takeFrom 78 = .ok (.getfield 24, 3) := by decide +kernel
theorem dX2_takeFrom_81 : decode cX2_takeFrom 81 = .ok (.iconst 0, 1) := by decide +kernel
theorem dX2_takeFrom_82 : decode cX2_takeFrom 82 = .ok (.aload_n 0, 1) := by decide +kernel
theorem dX2_takeFrom_83 : decode cX2_takeFrom 83 = .ok (.getfield 24, 3) := by decide +kernel
theorem dX2_takeFrom_86 : decode cX2_takeFrom 86 = .ok (.arraylength, 1) := by decide +kernel
theorem dX2_takeFrom_87 : decode cX2_takeFrom 87 = .ok (.invokestatic 83, 3) := by decide +kernel
theorem dX2_takeFrom_90 : decode cX2_takeFrom 90 = .ok (.aload_n 0, 1) := by decide +kernel
theorem dX2_takeFrom_91 : decode cX2_takeFrom 91 = .ok (.getfield 32, 3) := by decide +kernel
theorem dX2_takeFrom_94 : decode cX2_takeFrom 94 = .ok (.iconst 0, 1) := by decide +kernel
theorem dX2_takeFrom_95 : decode cX2_takeFrom 95 = .ok (.invokevirtual 80, 3) := by decide +kernel
theorem dX2_takeFrom_98 : decode cX2_takeFrom 98 = .ok (.aload_n 0, 1) := by decide +kernel
theorem dX2_takeFrom_99 : decode cX2_takeFrom 99 = .ok (.getfield 32, 3) := by decide +kernel
theorem dX2_takeFrom_102 : decode cX2_takeFrom 102 = .ok (.aload_n 1, 1) := by decide +kernel
theorem dX2_takeFrom_103 : decode cX2_takeFrom 103 = .ok (.getfield 32, 3) := by decide +kernel
theorem dX2_takeFrom_106 : decode cX2_takeFrom 106 = .ok (.iconst 0, 1) := by decide +kernel
theorem dX2_takeFrom_107 : decode cX2_takeFrom 107 = .ok (.aload_n 1, 1) := by decide +kernel
theorem dX2_takeFrom_108 : decode cX2_takeFrom 108 = .ok (.getfield 32, 3) := by decide +kernel
theorem dX2_takeFrom_111 : decode cX2_takeFrom 111 = .ok (.invokevirtual 55, 3) := by decide +kernel
theorem dX2_takeFrom_114 : decode cX2_takeFrom 114 = .ok (.invokevirtual 89, 3) := by decide +kernel
theorem dX2_takeFrom_117 : decode cX2_takeFrom 117 = .ok (.aload_n 0, 1) := by decide +kernel
theorem dX2_takeFrom_118 : decode cX2_takeFrom 118 = .ok (.aload_n 1, 1) := by decide +kernel
theorem dX2_takeFrom_119 : decode cX2_takeFrom 119 = .ok (.getfield 48, 3) := by decide +kernel
theorem dX2_takeFrom_122 : decode cX2_takeFrom 122 = .ok (.putfield 48, 3) := by decide +kernel
theorem dX2_takeFrom_125 : decode cX2_takeFrom 125 = .ok (.return_, 1) := by decide +kernel
/-- InferResolve$Kinds.takeFrom(LInferResolve$Kinds;)V -/
noncomputable def qc_58 : pr_Co := [(0, (.inl (po_aload 1 1))), (1, (.inl (po_get 2 0 4))), (4, (.inl (po_push 0 5))), (5, (.inl (po_aload 0 6))), (6, (.inl (po_get 2 0 9))), (9, (.inl (po_push 0 10))), (10, (.inl (po_aload 0 11))), (11, (.inl (po_get 2 0 14))), (14, (.inl (po_alen 15))), (15, (.inl (po_copy 18))), (18, (.inl (po_aload 1 19))), (19, (.inl (po_get 2 1 22))), (22, (.inl (po_push 0 23))), (23, (.inl (po_aload 0 24))), (24, (.inl (po_get 2 1 27))), (27, (.inl (po_push 0 28))), (28, (.inl (po_aload 0 29))), (29, (.inl (po_get 2 1 32))), (32, (.inl (po_alen 33))), (33, (.inl (po_copy 36))), (36, (.inl (po_aload 1 37))), (37, (.inl (po_get 2 2 40))), (40, (.inl (po_push 0 41))), (41, (.inl (po_aload 0 42))), (42, (.inl (po_get 2 2 45))), (45, (.inl (po_push 0 46))), (46, (.inl (po_aload 0 47))), (47, (.inl (po_get 2 2 50))), (50, (.inl (po_alen 51))), (51, (.inl (po_copy 54))), (54, (.inl (po_aload 1 55))), (55, (.inl (po_get 2 3 58))), (58, (.inl (po_push 0 59))), (59, (.inl (po_aload 0 60))), (60, (.inl (po_get 2 3 63))), (63, (.inl (po_push 0 64))), (64, (.inl (po_aload 0 65))), (65, (.inl (po_get 2 3 68))), (68, (.inl (po_alen 69))), (69, (.inl (po_copy 72))), (72, (.inl (po_aload 1 73))), (73, (.inl (po_get 2 4 76))), (76, (.inl (po_push 0 77))), (77, (.inl (po_aload 0 78))), (78, (.inl (po_get 2 4 81))), (81, (.inl (po_push 0 82))), (82, (.inl (po_aload 0 83))), (83, (.inl (po_get 2 4 86))), (86, (.inl (po_alen 87))), (87, (.inl (po_copy 90))), (90, (.inl (po_aload 0 91))), (91, (.inl (po_get 2 5 94))), (94, (.inl (po_push 0 95))), (95, (.inl (po_cv 83 1 7 2 98))), (98, (.inl (po_aload 0 99))), (99, (.inl (po_get 2 5 102))), (102, (.inl (po_aload 1 103))), (103, (.inl (po_get 2 5 106))), (106, (.inl (po_push 0 107))), (107, (.inl (po_aload 1 108))), (108, (.inl (po_get 2 5 111))), (111, (.inl (po_cv 79 0 7 1 114))), (114, (.inl (po_cv 82 3 7 5 117))), (117, (.inl (po_aload 0 118))), (118, (.inl (po_aload 1 119))), (119, (.inl (po_get 2 6 122))), (122, (.inl (po_puti 2 6 125))), (125, (.inr (re_v)))]
set_option maxRecDepth 100000 in
set_option maxHeartbeats 4000000 in
theorem qs_58 : pr_aS pr_ms m_58 [(0, (.inl (po_aload 1 1))), (1, (.inl (po_get 2 0 4))), (4, (.inl (po_push 0 5))), (5, (.inl (po_aload 0 6))), (6, (.inl (po_get 2 0 9))), (9, (.inl (po_push 0 10))), (10, (.inl (po_aload 0 11))), (11, (.inl (po_get 2 0 14))), (14, (.inl (po_alen 15))), (15, (.inl (po_copy 18))), (18, (.inl (po_aload 1 19))), (19, (.inl (po_get 2 1 22))), (22, (.inl (po_push 0 23))), (23, (.inl (po_aload 0 24))), (24, (.inl (po_get 2 1 27))), (27, (.inl (po_push 0 28))), (28, (.inl (po_aload 0 29))), (29, (.inl (po_get 2 1 32))), (32, (.inl (po_alen 33))), (33, (.inl (po_copy 36))), (36, (.inl (po_aload 1 37))), (37, (.inl (po_get 2 2 40))), (40, (.inl (po_push 0 41))), (41, (.inl (po_aload 0 42))), (42, (.inl (po_get 2 2 45))), (45, (.inl (po_push 0 46))), (46, (.inl (po_aload 0 47))), (47, (.inl (po_get 2 2 50))), (50, (.inl (po_alen 51))), (51, (.inl (po_copy 54))), (54, (.inl (po_aload 1 55))), (55, (.inl (po_get 2 3 58))), (58, (.inl (po_push 0 59))), (59, (.inl (po_aload 0 60))), (60, (.inl (po_get 2 3 63))), (63, (.inl (po_push 0 64))), (64, (.inl (po_aload 0 65))), (65, (.inl (po_get 2 3 68))), (68, (.inl (po_alen 69))), (69, (.inl (po_copy 72))), (72, (.inl (po_aload 1 73))), (73, (.inl (po_get 2 4 76))), (76, (.inl (po_push 0 77))), (77, (.inl (po_aload 0 78))), (78, (.inl (po_get 2 4 81))), (81, (.inl (po_push 0 82))), (82, (.inl (po_aload 0 83))), (83, (.inl (po_get 2 4 86))), (86, (.inl (po_alen 87))), (87, (.inl (po_copy 90))), (90, (.inl (po_aload 0 91))), (91, (.inl (po_get 2 5 94))), (94, (.inl (po_push 0 95))), (95, (.inl (po_cv 83 1 7 2 98))), (98, (.inl (po_aload 0 99))), (99, (.inl (po_get 2 5 102))), (102, (.inl (po_aload 1 103))), (103, (.inl (po_get 2 5 106))), (106, (.inl (po_push 0 107))), (107, (.inl (po_aload 1 108))), (108, (.inl (po_get 2 5 111))), (111, (.inl (po_cv 79 0 7 1 114))), (114, (.inl (po_cv 82 3 7 5 117))), (117, (.inl (po_aload 0 118))), (118, (.inl (po_aload 1 119))), (119, (.inl (po_get 2 6 122))), (122, (.inl (po_puti 2 6 125))), (125, (.inr (re_v)))] := pr_aS_c (pr_eI (os_aload_n (q := 1) dX2_takeFrom_0)) (pr_aS_c (pr_eI (os_get (kf := 0) dX2_takeFrom_1 cf_2 (by decide) wd_309)) (pr_aS_c (pr_eI (os_iconst dX2_takeFrom_4 (by decide +kernel))) (pr_aS_c (pr_eI (os_aload_n (q := 0) dX2_takeFrom_5)) (pr_aS_c (pr_eI (os_get (kf := 0) dX2_takeFrom_6 cf_2 (by decide) wd_309)) (pr_aS_c (pr_eI (os_iconst dX2_takeFrom_9 (by decide +kernel))) (pr_aS_c (pr_eI (os_aload_n (q := 0) dX2_takeFrom_10)) (pr_aS_c (pr_eI (os_get (kf := 0) dX2_takeFrom_11 cf_2 (by decide) wd_309)) (pr_aS_c (pr_eI (os_alen dX2_takeFrom_14)) (pr_aS_c (pr_eI (os_copy dX2_takeFrom_15 wd_336 wd_337 wd_338 wd_339)) (pr_aS_c (pr_eI (os_aload_n (q := 1) dX2_takeFrom_18)) (pr_aS_c (pr_eI (os_get (kf := 1) dX2_takeFrom_19 cf_2 (by decide) wd_310)) (pr_aS_c (pr_eI (os_iconst dX2_takeFrom_22 (by decide +kernel))) (pr_aS_c (pr_eI (os_aload_n (q := 0) dX2_takeFrom_23)) (pr_aS_c (pr_eI (os_get (kf := 1) dX2_takeFrom_24 cf_2 (by decide) wd_310)) (pr_aS_c (pr_eI (os_iconst dX2_takeFrom_27 (by decide +kernel))) (pr_aS_c (pr_eI (os_aload_n (q := 0) dX2_takeFrom_28)) (pr_aS_c (pr_eI (os_get (kf := 1) dX2_takeFrom_29 cf_2 (by decide) wd_310)) (pr_aS_c (pr_eI (os_alen dX2_takeFrom_32)) (pr_aS_c (pr_eI (os_copy dX2_takeFrom_33 wd_336 wd_337 wd_338 wd_339)) (pr_aS_c (pr_eI (os_aload_n (q := 1) dX2_takeFrom_36)) (pr_aS_c (pr_eI (os_get (kf := 2) dX2_takeFrom_37 cf_2 (by decide) wd_311)) (pr_aS_c (pr_eI (os_iconst dX2_takeFrom_40 (by decide +kernel))) (pr_aS_c (pr_eI (os_aload_n (q := 0) dX2_takeFrom_41)) (pr_aS_c (pr_eI (os_get (kf := 2) dX2_takeFrom_42 cf_2 (by decide) wd_311)) (pr_aS_c (pr_eI (os_iconst dX2_takeFrom_45 (by decide +kernel))) (pr_aS_c (pr_eI (os_aload_n (q := 0) dX2_takeFrom_46)) (pr_aS_c (pr_eI (os_get (kf := 2) dX2_takeFrom_47 cf_2 (by decide) wd_311)) (pr_aS_c (pr_eI (os_alen dX2_takeFrom_50)) (pr_aS_c (pr_eI (os_copy dX2_takeFrom_51 wd_336 wd_337 wd_338 wd_339)) (pr_aS_c (pr_eI (os_aload_n (q := 1) dX2_takeFrom_54)) (pr_aS_c (pr_eI (os_get (kf := 3) dX2_takeFrom_55 cf_2 (by decide) wd_312)) (pr_aS_c (pr_eI (os_iconst dX2_takeFrom_58 (by decide +kernel))) (pr_aS_c (pr_eI (os_aload_n (q := 0) dX2_takeFrom_59)) (pr_aS_c (pr_eI (os_get (kf := 3) dX2_takeFrom_60 cf_2 (by decide) wd_312)) (pr_aS_c (pr_eI (os_iconst dX2_takeFrom_63 (by decide +kernel))) (pr_aS_c (pr_eI (os_aload_n (q := 0) dX2_takeFrom_64)) (pr_aS_c (pr_eI (os_get (kf := 3) dX2_takeFrom_65 cf_2 (by decide) wd_312)) (pr_aS_c (pr_eI (os_alen dX2_takeFrom_68)) (pr_aS_c (pr_eI (os_copy dX2_takeFrom_69 wd_336 wd_337 wd_338 wd_339)) (pr_aS_c (pr_eI (os_aload_n (q := 1) dX2_takeFrom_72)) (pr_aS_c (pr_eI (os_get (kf := 4) dX2_takeFrom_73 cf_2 (by decide) wd_313)) (pr_aS_c (pr_eI (os_iconst dX2_takeFrom_76 (by decide +kernel))) (pr_aS_c (pr_eI (os_aload_n (q := 0) dX2_takeFrom_77)) (pr_aS_c (pr_eI (os_get (kf := 4) dX2_takeFrom_78 cf_2 (by decide) wd_313)) (pr_aS_c (pr_eI (os_iconst dX2_takeFrom_81 (by decide +kernel))) (pr_aS_c (pr_eI (os_aload_n (q := 0) dX2_takeFrom_82)) (pr_aS_c (pr_eI (os_get (kf := 4) dX2_takeFrom_83 cf_2 (by decide) wd_313)) (pr_aS_c (pr_eI (os_alen dX2_takeFrom_86)) (pr_aS_c (pr_eI (os_copy dX2_takeFrom_87 wd_336 wd_337 wd_338 wd_339)) (pr_aS_c (pr_eI (os_aload_n (q := 0) dX2_takeFrom_90)) (pr_aS_c (pr_eI (os_get (kf := 5) dX2_takeFrom_91 cf_2 (by decide) wd_316)) (pr_aS_c (pr_eI (os_iconst dX2_takeFrom_94 (by decide +kernel))) (pr_aS_c (pr_eI (os_cv dX2_takeFrom_95 (k := 83) rfl rfl cal_83 wd_335 wd_116 wd_115 rfl)) (pr_aS_c (pr_eI (os_aload_n (q := 0) dX2_takeFrom_98)) (pr_aS_c (pr_eI (os_get (kf := 5) dX2_takeFrom_99 cf_2 (by decide) wd_316)) (pr_aS_c (pr_eI (os_aload_n (q := 1) dX2_takeFrom_102)) (pr_aS_c (pr_eI (os_get (kf := 5) dX2_takeFrom_103 cf_2 (by decide) wd_316)) (pr_aS_c (pr_eI (os_iconst dX2_takeFrom_106 (by decide +kernel))) (pr_aS_c (pr_eI (os_aload_n (q := 1) dX2_takeFrom_107)) (pr_aS_c (pr_eI (os_get (kf := 5) dX2_takeFrom_108 cf_2 (by decide) wd_316)) (pr_aS_c (pr_eI (os_cv dX2_takeFrom_111 (k := 79) rfl rfl cal_79 wd_322 wd_102 wd_101 rfl)) (pr_aS_c (pr_eI (os_cv dX2_takeFrom_114 (k := 82) rfl rfl cal_82 wd_340 wd_342 wd_341 rfl)) (pr_aS_c (pr_eI (os_aload_n (q := 0) dX2_takeFrom_117)) (pr_aS_c (pr_eI (os_aload_n (q := 1) dX2_takeFrom_118)) (pr_aS_c (pr_eI (os_get (kf := 6) dX2_takeFrom_119 cf_2 (by decide) wd_320)) (pr_aS_c (pr_eI (os_puti (kf := 6) dX2_takeFrom_122 cf_2 (by decide) wd_320 rfl rfl)) (pr_aS_c (pr_eR (rs_v dX2_takeFrom_125 rfl)) trivial)))))))))))))))))))))))))))))))))))))))))))))))))))))))))))))))))))
theorem dX2_addLetter_0 : decode cX2_addLetter 0 = .ok (.aload_n 0, 1) := by decide +kernel
theorem dX2_addLetter_1 : decode cX2_addLetter 1 = .ok (.getfield 48, 3) := by decide +kernel
theorem dX2_addLetter_4 : decode cX2_addLetter 4 = .ok (.bipush 20, 2) := by decide +kernel
theorem dX2_addLetter_6 : decode cX2_addLetter 6 = .ok (.if_icmp .ge 53, 3) := by decide +kernel
theorem dX2_addLetter_9 : decode cX2_addLetter 9 = .ok (.aload_n 0, 1) := by decide +kernel
theorem dX2_addLetter_10 : decode cX2_addLetter 10 = .ok (.getfield 15, 3) := by decide +kernel
theorem dX2_addLetter_13 : decode cX2_addLetter 13 = .ok (.aload_n 0, 1) := by decide +kernel
theorem dX2_addLetter_14 : decode cX2_addLetter 14 = .ok (.getfield 48, 3) := by decide +kernel
theorem dX2_addLetter_17 : decode cX2_addLetter 17 = .ok (.iaload, 1) := by decide +kernel
theorem dX2_addLetter_18 : decode cX2_addLetter 18 = .ok (.bipush 8, 2) := by decide +kernel
theorem dX2_addLetter_20 : decode cX2_addLetter 20 = .ok (.if_icmp .ge 39, 3) := by decide +kernel
theorem dX2_addLetter_23 : decode cX2_addLetter 23 = .ok (.aload_n 0, 1) := by decide +kernel
theorem dX2_addLetter_24 : decode cX2_addLetter 24 = .ok (.getfield 9, 3) := by decide +kernel
theorem dX2_addLetter_27 : decode cX2_addLetter 27 = .ok (.aload_n 0, 1) := by decide +kernel
theorem dX2_addLetter_28 : decode cX2_addLetter 28 = .ok (.getfield 48, 3) := by decide +kernel
theorem dX2_addLetter_31 : decode cX2_addLetter 31 = .ok (.bipush 8, 2) := by decide +kernel
theorem dX2_addLetter_33 : decode cX2_addLetter 33 = .ok (.imul, 1) := by decide +kernel
theorem dX2_addLetter_34 : decode cX2_addLetter 34 = .ok (.aload_n 0, 1) := by decide +kernel
theorem dX2_addLetter_35 : decode cX2_addLetter 35 = .ok (.getfield 15, 3) := by decide +kernel
theorem dX2_addLetter_38 : decode cX2_addLetter 38 = .ok (.aload_n 0, 1) := by decide +kernel
theorem dX2_addLetter_39 : decode cX2_addLetter 39 = .ok (.getfield 48, 3) := by decide +kernel
theorem dX2_addLetter_42 : decode cX2_addLetter 42 = .ok (.iaload, 1) := by decide +kernel
theorem dX2_addLetter_43 : decode cX2_addLetter 43 = .ok (.iadd, 1) := by decide +kernel
theorem dX2_addLetter_44 : decode cX2_addLetter 44 = .ok (.iload_n 1, 1) := by decide +kernel
theorem dX2_addLetter_45 : decode cX2_addLetter 45 = .ok (.iastore, 1) := by decide +kernel
theorem dX2_addLetter_46 : decode cX2_addLetter 46 = .ok (.aload_n 0, 1) := by decide +kernel
theorem dX2_addLetter_47 : decode cX2_addLetter 47 = .ok (.getfield 15, 3) := by decide +kernel
theorem dX2_addLetter_50 : decode cX2_addLetter 50 = .ok (.aload_n 0, 1) := by decide +kernel
theorem dX2_addLetter_51 : decode cX2_addLetter 51 = .ok (.getfield 48, 3) := by decide +kernel
theorem dX2_addLetter_54 : decode cX2_addLetter 54 = .ok (.dup2, 1) := by decide +kernel
theorem dX2_addLetter_55 : decode cX2_addLetter 55 = .ok (.iaload, 1) := by decide +kernel
theorem dX2_addLetter_56 : decode cX2_addLetter 56 = .ok (.iconst 1, 1) := by decide +kernel
theorem dX2_addLetter_57 : decode cX2_addLetter 57 = .ok (.iadd, 1) := by decide +kernel
theorem dX2_addLetter_58 : decode cX2_addLetter 58 = .ok (.iastore, 1) := by decide +kernel
theorem dX2_addLetter_59 : decode cX2_addLetter 59 = .ok (.return_, 1) := by decide +kernel
/-- InferResolve$Kinds.addLetter(I)V -/
noncomputable def qc_59 : pr_Co := [(0, (.inl (po_aload 0 1))), (1, (.inl (po_get 2 6 4))), (4, (.inl (po_push 20 6))), (6, (.inl (po_if2 (fun x y => decide (y ≤ x)) 59 9))), (9, (.inl (po_aload 0 10))), (10, (.inl (po_get 2 1 13))), (13, (.inl (po_aload 0 14))), (14, (.inl (po_get 2 6 17))), (17, (.inl (po_iald 18))), (18, (.inl (po_push 8 20))), (20, (.inl (po_if2 (fun x y => decide (y ≤ x)) 59 23))), (23, (.inl (po_aload 0 24))), (24, (.inl (po_get 2 0 27))), (27, (.inl (po_aload 0 28))), (28, (.inl (po_get 2 6 31))), (31, (.inl (po_push 8 33))), (33, (.inl (po_i2 (fun x y => x * y) 34))), (34, (.inl (po_aload 0 35))), (35, (.inl (po_get 2 1 38))), (38, (.inl (po_aload 0 39))), (39, (.inl (po_get 2 6 42))), (42, (.inl (po_iald 43))), (43, (.inl (po_i2 (fun x y => x + y) 44))), (44, (.inl (po_iload 1 45))), (45, (.inl (po_iast 46))), (46, (.inl (po_aload 0 47))), (47, (.inl (po_get 2 1 50))), (50, (.inl (po_aload 0 51))), (51, (.inl (po_get 2 6 54))), (54, (.inl (po_dup2 55))), (55, (.inl (po_iald 56))), (56, (.inl (po_push 1 57))), (57, (.inl (po_i2 (fun x y => x + y) 58))), (58, (.inl (po_iast 59))), (59, (.inr (re_v)))]
set_option maxRecDepth 100000 in
set_option maxHeartbeats 4000000 in
theorem qs_59 : pr_aS pr_ms m_59 [(0, (.inl (po_aload 0 1))), (1, (.inl (po_get 2 6 4))), (4, (.inl (po_push 20 6))), (6, (.inl (po_if2 (fun x y => decide (y ≤ x)) 59 9))), (9, (.inl (po_aload 0 10))), (10, (.inl (po_get 2 1 13))), (13, (.inl (po_aload 0 14))), (14, (.inl (po_get 2 6 17))), (17, (.inl (po_iald 18))), (18, (.inl (po_push 8 20))), (20, (.inl (po_if2 (fun x y => decide (y ≤ x)) 59 23))), (23, (.inl (po_aload 0 24))), (24, (.inl (po_get 2 0 27))), (27, (.inl (po_aload 0 28))), (28, (.inl (po_get 2 6 31))), (31, (.inl (po_push 8 33))), (33, (.inl (po_i2 (fun x y => x * y) 34))), (34, (.inl (po_aload 0 35))), (35, (.inl (po_get 2 1 38))), (38, (.inl (po_aload 0 39))), (39, (.inl (po_get 2 6 42))), (42, (.inl (po_iald 43))), (43, (.inl (po_i2 (fun x y => x + y) 44))), (44, (.inl (po_iload 1 45))), (45, (.inl (po_iast 46))), (46, (.inl (po_aload 0 47))), (47, (.inl (po_get 2 1 50))), (50, (.inl (po_aload 0 51))), (51, (.inl (po_get 2 6 54))), (54, (.inl (po_dup2 55))), (55, (.inl (po_iald 56))), (56, (.inl (po_push 1 57))), (57, (.inl (po_i2 (fun x y => x + y) 58))), (58, (.inl (po_iast 59))), (59, (.inr (re_v)))] := pr_aS_c (pr_eI (os_aload_n (q := 0) dX2_addLetter_0)) (pr_aS_c (pr_eI (os_get (kf := 6) dX2_addLetter_1 cf_2 (by decide) wd_320)) (pr_aS_c (pr_eI (os_bipush dX2_addLetter_4 (by decide +kernel))) (pr_aS_c (pr_eI (os_icmp_ge dX2_addLetter_6 (by decide))) (pr_aS_c (pr_eI (os_aload_n (q := 0) dX2_addLetter_9)) (pr_aS_c (pr_eI (os_get (kf := 1) dX2_addLetter_10 cf_2 (by decide) wd_310)) (pr_aS_c (pr_eI (os_aload_n (q := 0) dX2_addLetter_13)) (pr_aS_c (pr_eI (os_get (kf := 6) dX2_addLetter_14 cf_2 (by decide) wd_320)) (pr_aS_c (pr_eI (os_iald dX2_addLetter_17)) (pr_aS_c (pr_eI (os_bipush dX2_addLetter_18 (by decide +kernel))) (pr_aS_c (pr_eI (os_icmp_ge dX2_addLetter_20 (by decide))) (pr_aS_c (pr_eI (os_aload_n (q := 0) dX2_addLetter_23)) (pr_aS_c (pr_eI (os_get (kf := 0) dX2_addLetter_24 cf_2 (by decide) wd_309)) (pr_aS_c (pr_eI (os_aload_n (q := 0) dX2_addLetter_27)) (pr_aS_c (pr_eI (os_get (kf := 6) dX2_addLetter_28 cf_2 (by decide) wd_320)) (pr_aS_c (pr_eI (os_bipush dX2_addLetter_31 (by decide +kernel))) (pr_aS_c (pr_eI (os_imul dX2_addLetter_33)) (pr_aS_c (pr_eI (os_aload_n (q := 0) dX2_addLetter_34)) (pr_aS_c (pr_eI (os_get (kf := 1) dX2_addLetter_35 cf_2 (by decide) wd_310)) (pr_aS_c (pr_eI (os_aload_n (q := 0) dX2_addLetter_38)) (pr_aS_c (pr_eI (os_get (kf := 6) dX2_addLetter_39 cf_2 (by decide) wd_320)) (pr_aS_c (pr_eI (os_iald dX2_addLetter_42)) (pr_aS_c (pr_eI (os_iadd dX2_addLetter_43)) (pr_aS_c (pr_eI (os_iload_n (q := 1) dX2_addLetter_44)) (pr_aS_c (pr_eI (os_iast dX2_addLetter_45)) (pr_aS_c (pr_eI (os_aload_n (q := 0) dX2_addLetter_46)) (pr_aS_c (pr_eI (os_get (kf := 1) dX2_addLetter_47 cf_2 (by decide) wd_310)) (pr_aS_c (pr_eI (os_aload_n (q := 0) dX2_addLetter_50)) (pr_aS_c (pr_eI (os_get (kf := 6) dX2_addLetter_51 cf_2 (by decide) wd_320)) (pr_aS_c (pr_eI (os_dup2 dX2_addLetter_54)) (pr_aS_c (pr_eI (os_iald dX2_addLetter_55)) (pr_aS_c (pr_eI (os_iconst dX2_addLetter_56 (by decide +kernel))) (pr_aS_c (pr_eI (os_iadd dX2_addLetter_57)) (pr_aS_c (pr_eI (os_iast dX2_addLetter_58)) (pr_aS_c (pr_eR (rs_v dX2_addLetter_59 rfl)) trivial))))))))))))))))))))))))))))))))))
theorem dX2_setPlace_0 : decode cX2_setPlace 0 = .ok (.aload_n 0, 1) := by decide +kernel
theorem dX2_setPlace_1 : decode cX2_setPlace 1 = .ok (.getfield 48, 3) := by decide +kernel
theorem dX2_setPlace_4 : decode cX2_setPlace 4 = .ok (.bipush 20, 2) := by decide +kernel
theorem dX2_setPlace_6 : decode cX2_setPlace 6 = .ok (.if_icmp .ge 49, 3) := by decide +kernel
theorem dX2_setPlace_9 : decode cX2_setPlace 9 = .ok (.iload_n 1, 1) := by decide +kernel
theorem dX2_setPlace_10 : decode cX2_setPlace 10 = .ok (.ifCond .lt 45, 3) := by decide +kernel
theorem dX2_setPlace_13 : decode cX2_setPlace 13 = .ok (.iload_n 1, 1) := by decide +kernel
theorem dX2_setPlace_14 : decode cX2_setPlace 14 = .ok (.bipush 20, 2) := by decide +kernel
theorem dX2_setPlace_16 : decode cX2_setPlace 16 = .ok (.if_icmp .ge 39, 3) := by decide +kernel
theorem dX2_setPlace_19 : decode cX2_setPlace 19 = .ok (.aload_n 0, 1) := by decide +kernel
theorem dX2_setPlace_20 : decode cX2_setPlace 20 = .ok (.getfield 24, 3) := by decide +kernel
theorem dX2_setPlace_23 : decode cX2_setPlace 23 = .ok (.aload_n 0, 1) := by decide +kernel
theorem dX2_setPlace_24 : decode cX2_setPlace 24 = .ok (.getfield 48, 3) := by decide +kernel
theorem dX2_setPlace_27 : decode cX2_setPlace 27 = .ok (.bipush 20, 2) := by decide +kernel
theorem dX2_setPlace_29 : decode cX2_setPlace 29 = .ok (.imul, 1) := by decide +kernel
theorem dX2_setPlace_30 : decode cX2_setPlace 30 = .ok (.iload_n 1, 1) := by decide +kernel
theorem dX2_setPlace_31 : decode cX2_setPlace 31 = .ok (.iadd, 1) := by decide +kernel
theorem dX2_setPlace_32 : decode cX2_setPlace 32 = .ok (.aload_n 0, 1) := by decide +kernel
theorem dX2_setPlace_33 : decode cX2_setPlace 33 = .ok (.getfield 32, 3) := by decide +kernel
theorem dX2_setPlace_36 : decode cX2_setPlace 36 = .ok (.invokevirtual 55, 3) := by decide +kernel
theorem dX2_setPlace_39 : decode cX2_setPlace 39 = .ok (.iastore, 1) := by decide +kernel
theorem dX2_setPlace_40 : decode cX2_setPlace 40 = .ok (.aload_n 0, 1) := by decide +kernel
theorem dX2_setPlace_41 : decode cX2_setPlace 41 = .ok (.getfield 21, 3) := by decide +kernel
theorem dX2_setPlace_44 : decode cX2_setPlace 44 = .ok (.aload_n 0, 1) := by decide +kernel
theorem dX2_setPlace_45 : decode cX2_setPlace 45 = .ok (.getfield 48, 3) := by decide +kernel
theorem dX2_setPlace_48 : decode cX2_setPlace 48 = .ok (.dup2, 1) := by decide +kernel
theorem dX2_setPlace_49 : decode cX2_setPlace 49 = .ok (.iaload, 1) := by decide +kernel
theorem dX2_setPlace_50 : decode cX2_setPlace 50 = .ok (.iconst 1, 1) := by decide +kernel
theorem dX2_setPlace_51 : decode cX2_setPlace 51 = .ok (.iload_n 1, 1) := by decide +kernel
theorem dX2_setPlace_52 : decode cX2_setPlace 52 = .ok (.ishl, 1) := by decide +kernel
theorem dX2_setPlace_53 : decode cX2_setPlace 53 = .ok (.ior, 1) := by decide +kernel
theorem dX2_setPlace_54 : decode cX2_setPlace 54 = .ok (.iastore, 1) := by decide +kernel
theorem dX2_setPlace_55 : decode cX2_setPlace 55 = .ok (.return_, 1) := by decide +kernel
/-- InferResolve$Kinds.setPlace(I)V -/
noncomputable def qc_60 : pr_Co := [(0, (.inl (po_aload 0 1))), (1, (.inl (po_get 2 6 4))), (4, (.inl (po_push 20 6))), (6, (.inl (po_if2 (fun x y => decide (y ≤ x)) 55 9))), (9, (.inl (po_iload 1 10))), (10, (.inl (po_if1 (fun x => decide (x < 0)) 55 13))), (13, (.inl (po_iload 1 14))), (14, (.inl (po_push 20 16))), (16, (.inl (po_if2 (fun x y => decide (y ≤ x)) 55 19))), (19, (.inl (po_aload 0 20))), (20, (.inl (po_get 2 4 23))), (23, (.inl (po_aload 0 24))), (24, (.inl (po_get 2 6 27))), (27, (.inl (po_push 20 29))), (29, (.inl (po_i2 (fun x y => x * y) 30))), (30, (.inl (po_iload 1 31))), (31, (.inl (po_i2 (fun x y => x + y) 32))), (32, (.inl (po_aload 0 33))), (33, (.inl (po_get 2 5 36))), (36, (.inl (po_cv 79 0 7 1 39))), (39, (.inl (po_iast 40))), (40, (.inl (po_aload 0 41))), (41, (.inl (po_get 2 3 44))), (44, (.inl (po_aload 0 45))), (45, (.inl (po_get 2 6 48))), (48, (.inl (po_dup2 49))), (49, (.inl (po_iald 50))), (50, (.inl (po_push 1 51))), (51, (.inl (po_iload 1 52))), (52, (.inl (po_i2 (fun x y => x <<< (y &&& 31)) 53))), (53, (.inl (po_i2 (fun x y => x ||| y) 54))), (54, (.inl (po_iast 55))), (55, (.inr (re_v)))]
set_option maxRecDepth 100000 in
set_option maxHeartbeats 4000000 in
theorem qs_60 : pr_aS pr_ms m_60 [(0, (.inl (po_aload 0 1))), (1, (.inl (po_get 2 6 4))), (4, (.inl (po_push 20 6))), (6, (.inl (po_if2 (fun x y => decide (y ≤ x)) 55 9))), (9, (.inl (po_iload 1 10))), (10, (.inl (po_if1 (fun x => decide (x < 0)) 55 13))), (13, (.inl (po_iload 1 14))), (14, (.inl (po_push 20 16))), (16, (.inl (po_if2 (fun x y => decide (y ≤ x)) 55 19))), (19, (.inl (po_aload 0 20))), (20, (.inl (po_get 2 4 23))), (23, (.inl (po_aload 0 24))), (24, (.inl (po_get 2 6 27))), (27, (.inl (po_push 20 29))), (29, (.inl (po_i2 (fun x y => x * y) 30))), (30, (.inl (po_iload 1 31))), (31, (.inl (po_i2 (fun x y => x + y) 32))), (32, (.inl (po_aload 0 33))), (33, (.inl (po_get 2 5 36))), (36, (.inl (po_cv 79 0 7 1 39))), (39, (.inl (po_iast 40))), (40, (.inl (po_aload 0 41))), (41, (.inl (po_get 2 3 44))), (44, (.inl (po_aload 0 45))), (45, (.inl (po_get 2 6 48))), (48, (.inl (po_dup2 49))), (49, (.inl (po_iald 50))), (50, (.inl (po_push 1 51))), (51, (.inl (po_iload 1 52))), (52, (.inl (po_i2 (fun x y => x <<< (y &&& 31)) 53))), (53, (.inl (po_i2 (fun x y => x ||| y) 54))), (54, (.inl (po_iast 55))), (55, (.inr (re_v)))] := pr_aS_c (pr_eI (os_aload_n (q := 0) dX2_setPlace_0)) (pr_aS_c (pr_eI (os_get (kf := 6) dX2_setPlace_1 cf_2 (by decide) wd_320)) (pr_aS_c (pr_eI (os_bipush dX2_setPlace_4 (by decide +kernel))) (pr_aS_c (pr_eI (os_icmp_ge dX2_setPlace_6 (by decide))) (pr_aS_c (pr_eI (os_iload_n (q := 1) dX2_setPlace_9)) (pr_aS_c (pr_eI (os_if_lt dX2_setPlace_10 (by decide))) (pr_aS_c (pr_eI (os_iload_n (q := 1) dX2_setPlace_13)) (pr_aS_c (pr_eI (os_bipush dX2_setPlace_14 (by decide +kernel))) (pr_aS_c (pr_eI (os_icmp_ge dX2_setPlace_16 (by decide))) (pr_aS_c (pr_eI (os_aload_n (q := 0) dX2_setPlace_19)) (pr_aS_c (pr_eI (os_get (kf := 4) dX2_setPlace_20 cf_2 (by decide) wd_313)) (pr_aS_c (pr_eI (os_aload_n (q := 0) dX2_setPlace_23)) (pr_aS_c (pr_eI (os_get (kf := 6) dX2_setPlace_24 cf_2 (by decide) wd_320)) (pr_aS_c (pr_eI (os_bipush dX2_setPlace_27 (by decide +kernel))) (pr_aS_c (pr_eI (os_imul dX2_setPlace_29)) (pr_aS_c (pr_eI (os_iload_n (q := 1) dX2_setPlace_30)) (pr_aS_c (pr_eI (os_iadd dX2_setPlace_31)) (pr_aS_c (pr_eI (os_aload_n (q := 0) dX2_setPlace_32)) (pr_aS_c (pr_eI (os_get (kf := 5) dX2_setPlace_33 cf_2 (by decide) wd_316)) (pr_aS_c (pr_eI (os_cv dX2_setPlace_36 (k := 79) rfl rfl cal_79 wd_322 wd_102 wd_101 rfl)) (pr_aS_c (pr_eI (os_iast dX2_setPlace_39)) (pr_aS_c (pr_eI (os_aload_n (q := 0) dX2_setPlace_40)) (pr_aS_c (pr_eI (os_get (kf := 3) dX2_setPlace_41 cf_2 (by decide) wd_312)) (pr_aS_c (pr_eI (os_aload_n (q := 0) dX2_setPlace_44)) (pr_aS_c (pr_eI (os_get (kf := 6) dX2_setPlace_45 cf_2 (by decide) wd_320)) (pr_aS_c (pr_eI (os_dup2 dX2_setPlace_48)) (pr_aS_c (pr_eI (os_iald dX2_setPlace_49)) (pr_aS_c (pr_eI (os_iconst dX2_setPlace_50 (by decide +kernel))) (pr_aS_c (pr_eI (os_iload_n (q := 1) dX2_setPlace_51)) (pr_aS_c (pr_eI (os_ishl dX2_setPlace_52)) (pr_aS_c (pr_eI (os_ior dX2_setPlace_53)) (pr_aS_c (pr_eI (os_iast dX2_setPlace_54)) (pr_aS_c (pr_eR (rs_v dX2_setPlace_55 rfl)) trivial))))))))))))))))))))))))))))))))
theorem dX3_init_0 : decode cX3_init 0 = .ok (.aload_n 0, 1) := by decide +kernel
theorem dX3_init_1 : decode cX3_init 1 = .ok (.invokespecial 3, 3) := by decide +kernel
theorem dX3_init_4 : decode cX3_init 4 = .ok (.aload_n 0, 1) := by decide +kernel
theorem dX3_init_5 : decode cX3_init 5 = .ok (.new 9, 3) := by decide +kernel
theorem dX3_init_8 : decode cX3_init 8 = .ok (.dup, 1) := by decide +kernel
theorem dX3_init_9 : decode cX3_init 9 = .ok (.bipush 32, 2) := by decide +kernel
theorem dX3_init_11 : decode cX3_init 11 = .ok (.invokespecial 11, 3) := by decide +kernel
theorem dX3_init_14 : decode cX3_init 14 = .ok (.putfield 14, 3) := by decide +kernel
theorem dX3_init_17 : decode cX3_init 17 = .ok (.aload_n 0, 1) := by decide +kernel
theorem dX3_init_18 : decode cX3_init 18 = .ok (.bipush 20, 2) := by decide +kernel
theorem dX3_init_20 : decode cX3_init 20 = .ok (.newarray .int, 2) := by decide +kernel
theorem dX3_init_22 : decode cX3_init 22 = .ok (.putfield 20, 3) := by decide +kernel
theorem dX3_init_25 : decode cX3_init 25 = .ok (.aload_n 0, 1) := by decide +kernel
theorem dX3_init_26 : decode cX3_init 26 = .ok (.aload_n 1, 1) := by decide +kernel
theorem dX3_init_27 : decode cX3_init 27 = .ok (.putfield 24, 3) := by decide +kernel
theorem dX3_init_30 : decode cX3_init 30 = .ok (.return_, 1) := by decide +kernel
/-- InferResolve$Lattice.<init>(LInferResolve$Kinds;)V -/
noncomputable def qc_61 : pr_Co := [(0, (.inl (po_aload 0 1))), (1, (.inl (po_oi 4))), (4, (.inl (po_aload 0 5))), (5, (.inl (po_new 7 [.null, .int 0] 8))), (8, (.inl (po_dup 9))), (9, (.inl (po_push 32 11))), (11, (.inl (po_ci 78 1 2 14))), (14, (.inl (po_putr 3 1 17))), (17, (.inl (po_aload 0 18))), (18, (.inl (po_push 20 20))), (20, (.inl (po_newI 22))), (22, (.inl (po_putr 3 2 25))), (25, (.inl (po_aload 0 26))), (26, (.inl (po_aload 1 27))), (27, (.inl (po_putr 3 0 30))), (30, (.inr (re_v)))]
set_option maxRecDepth 100000 in
set_option maxHeartbeats 4000000 in
theorem qs_61 : pr_aS pr_ms m_61 [(0, (.inl (po_aload 0 1))), (1, (.inl (po_oi 4))), (4, (.inl (po_aload 0 5))), (5, (.inl (po_new 7 [.null, .int 0] 8))), (8, (.inl (po_dup 9))), (9, (.inl (po_push 32 11))), (11, (.inl (po_ci 78 1 2 14))), (14, (.inl (po_putr 3 1 17))), (17, (.inl (po_aload 0 18))), (18, (.inl (po_push 20 20))), (20, (.inl (po_newI 22))), (22, (.inl (po_putr 3 2 25))), (25, (.inl (po_aload 0 26))), (26, (.inl (po_aload 1 27))), (27, (.inl (po_putr 3 0 30))), (30, (.inr (re_v)))] := pr_aS_c (pr_eI (os_aload_n (q := 0) dX3_init_0)) (pr_aS_c (pr_eI (os_oi dX3_init_1 wd_343 wd_1 wd_2)) (pr_aS_c (pr_eI (os_aload_n (q := 0) dX3_init_4)) (pr_aS_c (pr_eI (os_new dX3_init_5 cf_7 wd_344 wd_4 wd_5 (by decide +kernel))) (pr_aS_c (pr_eI (os_dup dX3_init_8)) (pr_aS_c (pr_eI (os_bipush dX3_init_9 (by decide +kernel))) (pr_aS_c (pr_eI (os_ci dX3_init_11 (k := 78) rfl rfl cal_78 wd_345 wd_7 rfl rfl)) (pr_aS_c (pr_eI (os_putrF (kf := 1) dX3_init_14 cf_3 (by decide) wd_346 rfl rfl rfl (Or.inl ⟨_, rfl⟩))) (pr_aS_c (pr_eI (os_aload_n (q := 0) dX3_init_17)) (pr_aS_c (pr_eI (os_bipush dX3_init_18 (by decide +kernel))) (pr_aS_c (pr_eI (os_newI dX3_init_20 wd_138)) (pr_aS_c (pr_eI (os_putrF (kf := 2) dX3_init_22 cf_3 (by decide) wd_347 rfl rfl rfl (Or.inr ⟨_, rfl⟩))) (pr_aS_c (pr_eI (os_aload_n (q := 0) dX3_init_25)) (pr_aS_c (pr_eI (os_aload_n (q := 1) dX3_init_26)) (pr_aS_c (pr_eI (os_putrF (kf := 0) dX3_init_27 cf_3 (by decide) wd_348 rfl rfl rfl (Or.inl ⟨_, rfl⟩))) (pr_aS_c (pr_eR (rs_v dX3_init_30 rfl)) trivial)))))))))))))))
theorem dX4_init_0 : decode cX4_init 0 = .ok (.aload_n 0, 1) := by decide +kernel
theorem dX4_init_1 : decode cX4_init 1 = .ok (.invokespecial 3, 3) := by decide +kernel
theorem dX4_init_4 : decode cX4_init 4 = .ok (.aload_n 0, 1) := by decide +kernel
theorem dX4_init_5 : decode cX4_init 5 = .ok (.new 9, 3) := by decide +kernel
theorem dX4_init_8 : decode cX4_init 8 = .ok (.dup, 1) := by decide +kernel
theorem dX4_init_9 : decode cX4_init 9 = .ok (.sipush 256, 3) := by decide +kernel
theorem dX4_init_12 : decode cX4_init 12 = .ok (.invokespecial 11, 3) := by decide +kernel
theorem dX4_init_15 : decode cX4_init 15 = .ok (.putfield 14, 3) := by decide +kernel
theorem dX4_init_18 : decode cX4_init 18 = .ok (.aload_n 0, 1) := by decide +kernel
theorem dX4_init_19 : decode cX4_init 19 = .ok (.new 9, 3) := by decide +kernel
theorem dX4_init_22 : decode cX4_init 22 = .ok (.dup, 1) := by decide +kernel
theorem dX4_init_23 : decode cX4_init 23 = .ok (.bipush 32, 2) := by decide +kernel
theorem dX4_init_25 : decode cX4_init 25 = .ok (.invokespecial 11, 3) := by decide +kernel
theorem dX4_init_28 : decode cX4_init 28 = .ok (.putfield 20, 3) := by decide +kernel
theorem dX4_init_31 : decode cX4_init 31 = .ok (.aload_n 0, 1) := by decide +kernel
theorem dX4_init_32 : decode cX4_init 32 = .ok (.new 9, 3) := by decide +kernel
theorem dX4_init_35 : decode cX4_init 35 = .ok (.dup, 1) := by decide +kernel
theorem dX4_init_36 : decode cX4_init 36 = .ok (.bipush 32, 2) := by decide +kernel
theorem dX4_init_38 : decode cX4_init 38 = .ok (.invokespecial 11, 3) := by decide +kernel
theorem dX4_init_41 : decode cX4_init 41 = .ok (.putfield 23, 3) := by decide +kernel
theorem dX4_init_44 : decode cX4_init 44 = .ok (.aload_n 0, 1) := by decide +kernel
theorem dX4_init_45 : decode cX4_init 45 = .ok (.new 9, 3) := by decide +kernel
theorem dX4_init_48 : decode cX4_init 48 = .ok (.dup, 1) := by decide +kernel
theorem dX4_init_49 : decode cX4_init 49 = .ok (.bipush 32, 2) := by decide +kernel
theorem dX4_init_51 : decode cX4_init 51 = .ok (.invokespecial 11, 3) := by decide +kernel
theorem dX4_init_54 : decode cX4_init 54 = .ok (.putfield 26, 3) := by decide +kernel
theorem dX4_init_57 : decode cX4_init 57 = .ok (.aload_n 0, 1) := by decide +kernel
theorem dX4_init_58 : decode cX4_init 58 = .ok (.iconst (-1), 1) := by decide +kernel
theorem dX4_init_59 : decode cX4_init 59 = .ok (.putfield 29, 3) := by decide +kernel
theorem dX4_init_62 : decode cX4_init 62 = .ok (.aload_n 0, 1) := by decide +kernel
theorem dX4_init_63 : decode cX4_init 63 = .ok (.aload_n 1, 1) := by decide +kernel
theorem dX4_init_64 : decode cX4_init 64 = .ok (.putfield 33, 3) := by decide +kernel
theorem dX4_init_67 : decode cX4_init 67 = .ok (.aload_n 0, 1) := by decide +kernel
theorem dX4_init_68 : decode cX4_init 68 = .ok (.aload_n 2, 1) := by decide +kernel
theorem dX4_init_69 : decode cX4_init 69 = .ok (.putfield 37, 3) := by decide +kernel
theorem dX4_init_72 : decode cX4_init 72 = .ok (.return_, 1) := by decide +kernel
/-- InferResolve$Order.<init>(LInferResolve$Bounds;LInferResolve$Writer;)V -/
noncomputable def qc_62 : pr_Co := [(0, (.inl (po_aload 0 1))), (1, (.inl (po_oi 4))), (4, (.inl (po_aload 0 5))), (5, (.inl (po_new 7 [.null, .int 0] 8))), (8, (.inl (po_dup 9))), (9, (.inl (po_push 256 12))), (12, (.inl (po_ci 78 1 2 15))), (15, (.inl (po_putr 4 2 18))), (18, (.inl (po_aload 0 19))), (19, (.inl (po_new 7 [.null, .int 0] 22))), (22, (.inl (po_dup 23))), (23, (.inl (po_push 32 25))), (25, (.inl (po_ci 78 1 2 28))), (28, (.inl (po_putr 4 3 31))), (31, (.inl (po_aload 0 32))), (32, (.inl (po_new 7 [.null, .int 0] 35))), (35, (.inl (po_dup 36))), (36, (.inl (po_push 32 38))), (38, (.inl (po_ci 78 1 2 41))), (41, (.inl (po_putr 4 4 44))), (44, (.inl (po_aload 0 45))), (45, (.inl (po_new 7 [.null, .int 0] 48))), (48, (.inl (po_dup 49))), (49, (.inl (po_push 32 51))), (51, (.inl (po_ci 78 1 2 54))), (54, (.inl (po_putr 4 5 57))), (57, (.inl (po_aload 0 58))), (58, (.inl (po_push (-1) 59))), (59, (.inl (po_puti 4 6 62))), (62, (.inl (po_aload 0 63))), (63, (.inl (po_aload 1 64))), (64, (.inl (po_putr 4 0 67))), (67, (.inl (po_aload 0 68))), (68, (.inl (po_aload 2 69))), (69, (.inl (po_putr 4 1 72))), (72, (.inr (re_v)))]
set_option maxRecDepth 100000 in
set_option maxHeartbeats 4000000 in
theorem qs_62 : pr_aS pr_ms m_62 [(0, (.inl (po_aload 0 1))), (1, (.inl (po_oi 4))), (4, (.inl (po_aload 0 5))), (5, (.inl (po_new 7 [.null, .int 0] 8))), (8, (.inl (po_dup 9))), (9, (.inl (po_push 256 12))), (12, (.inl (po_ci 78 1 2 15))), (15, (.inl (po_putr 4 2 18))), (18, (.inl (po_aload 0 19))), (19, (.inl (po_new 7 [.null, .int 0] 22))), (22, (.inl (po_dup 23))), (23, (.inl (po_push 32 25))), (25, (.inl (po_ci 78 1 2 28))), (28, (.inl (po_putr 4 3 31))), (31, (.inl (po_aload 0 32))), (32, (.inl (po_new 7 [.null, .int 0] 35))), (35, (.inl (po_dup 36))), (36, (.inl (po_push 32 38))), (38, (.inl (po_ci 78 1 2 41))), (41, (.inl (po_putr 4 4 44))), (44, (.inl (po_aload 0 45))), (45, (.inl (po_new 7 [.null, .int 0] 48))), (48, (.inl (po_dup 49))), (49, (.inl (po_push 32 51))), (51, (.inl (po_ci 78 1 2 54))), (54, (.inl (po_putr 4 5 57))), (57, (.inl (po_aload 0 58))), (58, (.inl (po_push (-1) 59))), (59, (.inl (po_puti 4 6 62))), (62, (.inl (po_aload 0 63))), (63, (.inl (po_aload 1 64))), (64, (.inl (po_putr 4 0 67))), (67, (.inl (po_aload 0 68))), (68, (.inl (po_aload 2 69))), (69, (.inl (po_putr 4 1 72))), (72, (.inr (re_v)))] := pr_aS_c (pr_eI (os_aload_n (q := 0) dX4_init_0)) (pr_aS_c (pr_eI (os_oi dX4_init_1 wd_349 wd_1 wd_2)) (pr_aS_c (pr_eI (os_aload_n (q := 0) dX4_init_4)) (pr_aS_c (pr_eI (os_new dX4_init_5 cf_7 wd_350 wd_4 wd_5 (by decide +kernel))) (pr_aS_c (pr_eI (os_dup dX4_init_8)) (pr_aS_c (pr_eI (os_sipush dX4_init_9 (by decide +kernel))) (pr_aS_c (pr_eI (os_ci dX4_init_12 (k := 78) rfl rfl cal_78 wd_351 wd_7 rfl rfl)) (pr_aS_c (pr_eI (os_putrF (kf := 2) dX4_init_15 cf_4 (by decide) wd_352 rfl rfl rfl (Or.inl ⟨_, rfl⟩))) (pr_aS_c (pr_eI (os_aload_n (q := 0) dX4_init_18)) (pr_aS_c (pr_eI (os_new dX4_init_19 cf_7 wd_350 wd_4 wd_5 (by decide +kernel))) (pr_aS_c (pr_eI (os_dup dX4_init_22)) (pr_aS_c (pr_eI (os_bipush dX4_init_23 (by decide +kernel))) (pr_aS_c (pr_eI (os_ci dX4_init_25 (k := 78) rfl rfl cal_78 wd_351 wd_7 rfl rfl)) (pr_aS_c (pr_eI (os_putrF (kf := 3) dX4_init_28 cf_4 (by decide) wd_353 rfl rfl rfl (Or.inl ⟨_, rfl⟩))) (pr_aS_c (pr_eI (os_aload_n (q := 0) dX4_init_31)) (pr_aS_c (pr_eI (os_new dX4_init_32 cf_7 wd_350 wd_4 wd_5 (by decide +kernel))) (pr_aS_c (pr_eI (os_dup dX4_init_35)) (pr_aS_c (pr_eI (os_bipush dX4_init_36 (by decide +kernel))) (pr_aS_c (pr_eI (os_ci dX4_init_38 (k := 78) rfl rfl cal_78 wd_351 wd_7 rfl rfl)) (pr_aS_c (pr_eI (os_putrF (kf := 4) dX4_init_41 cf_4 (by decide) wd_354 rfl rfl rfl (Or.inl ⟨_, rfl⟩))) (pr_aS_c (pr_eI (os_aload_n (q := 0) dX4_init_44)) (pr_aS_c (pr_eI (os_new dX4_init_45 cf_7 wd_350 wd_4 wd_5 (by decide +kernel))) (pr_aS_c (pr_eI (os_dup dX4_init_48)) (pr_aS_c (pr_eI (os_bipush dX4_init_49 (by decide +kernel))) (pr_aS_c (pr_eI (os_ci dX4_init_51 (k := 78) rfl rfl cal_78 wd_351 wd_7 rfl rfl)) (pr_aS_c (pr_eI (os_putrF (kf := 5) dX4_init_54 cf_4 (by decide) wd_355 rfl rfl rfl (Or.inl ⟨_, rfl⟩))) (pr_aS_c (pr_eI (os_aload_n (q := 0) dX4_init_57)) (pr_aS_c (pr_eI (os_iconst dX4_init_58 (by decide +kernel))) (pr_aS_c (pr_eI (os_puti (kf := 6) dX4_init_59 cf_4 (by decide) wd_356 rfl rfl)) (pr_aS_c (pr_eI (os_aload_n (q := 0) dX4_init_62)) (pr_aS_c (pr_eI (os_aload_n (q := 1) dX4_init_63)) (pr_aS_c (pr_eI (os_putrF (kf := 0) dX4_init_64 cf_4 (by decide) wd_357 rfl rfl rfl (Or.inl ⟨_, rfl⟩))) (pr_aS_c (pr_eI (os_aload_n (q := 0) dX4_init_67)) (pr_aS_c (pr_eI (os_aload_n (q := 2) dX4_init_68)) (pr_aS_c (pr_eI (os_putrF (kf := 1) dX4_init_69 cf_4 (by decide) wd_358 rfl rfl rfl (Or.inl ⟨_, rfl⟩))) (pr_aS_c (pr_eR (rs_v dX4_init_72 rfl)) trivial)))))))))))))))))))))))))))))))))))
theorem dX5_init_0 : decode cX5_init 0 = .ok (.aload_n 0, 1) := by decide +kernel
theorem dX5_init_1 : decode cX5_init 1 = .ok (.invokespecial 3, 3) := by decide +kernel
theorem dX5_init_4 : decode cX5_init 4 = .ok (.aload_n 0, 1) := by decide +kernel
theorem dX5_init_5 : decode cX5_init 5 = .ok (.new 9, 3) := by decide +kernel
theorem dX5_init_8 : decode cX5_init 8 = .ok (.dup, 1) := by decide +kernel
theorem dX5_init_9 : decode cX5_init 9 = .ok (.bipush 64, 2) := by decide +kernel
theorem dX5_init_11 : decode cX5_init 11 = .ok (.invokespecial 11, 3) := by decide +kernel
theorem dX5_init_14 : decode cX5_init 14 = .ok (.putfield 14, 3) := by decide +kernel
theorem dX5_init_17 : decode cX5_init 17 = .ok (.aload_n 0, 1) := by decide +kernel
theorem dX5_init_18 : decode cX5_init 18 = .ok (.new 9, 3) := by decide +kernel
theorem dX5_init_21 : decode cX5_init 21 = .ok (.dup, 1) := by decide +kernel
theorem dX5_init_22 : decode cX5_init 22 = .ok (.bipush 8, 2) := by decide +kernel
theorem dX5_init_24 : decode cX5_init 24 = .ok (.invokespecial 11, 3) := by decide +kernel
theorem dX5_init_27 : decode cX5_init 27 = .ok (.putfield 20, 3) := by decide +kernel
theorem dX5_init_30 : decode cX5_init 30 = .ok (.aload_n 0, 1) := by decide +kernel
theorem dX5_init_31 : decode cX5_init 31 = .ok (.iconst 3, 1) := by decide +kernel
theorem dX5_init_32 : decode cX5_init 32 = .ok (.newarray .int, 2) := by decide +kernel
theorem dX5_init_34 : decode cX5_init 34 = .ok (.putfield 23, 3) := by decide +kernel
theorem dX5_init_37 : decode cX5_init 37 = .ok (.aload_n 0, 1) := by decide +kernel
theorem dX5_init_38 : decode cX5_init 38 = .ok (.iconst 3, 1) := by decide +kernel
theorem dX5_init_39 : decode cX5_init 39 = .ok (.newarray .int, 2) := by decide +kernel
theorem dX5_init_41 : decode cX5_init 41 = .ok (.putfield 27, 3) := by decide +kernel
theorem dX5_init_44 : decode cX5_init 44 = .ok (.aload_n 0, 1) := by decide +kernel
theorem dX5_init_45 : decode cX5_init 45 = .ok (.aload_n 1, 1) := by decide +kernel
theorem dX5_init_46 : decode cX5_init 46 = .ok (.putfield 30, 3) := by decide +kernel
theorem dX5_init_49 : decode cX5_init 49 = .ok (.aload_n 0, 1) := by decide +kernel
theorem dX5_init_50 : decode cX5_init 50 = .ok (.aload_n 2, 1) := by decide +kernel
theorem dX5_init_51 : decode cX5_init 51 = .ok (.putfield 33, 3) := by decide +kernel
theorem dX5_init_54 : decode cX5_init 54 = .ok (.return_, 1) := by decide +kernel
/-- InferResolve$Reader.<init>(LInferResolve$Row;LInferResolve$Kinds;)V -/
noncomputable def qc_63 : pr_Co := [(0, (.inl (po_aload 0 1))), (1, (.inl (po_oi 4))), (4, (.inl (po_aload 0 5))), (5, (.inl (po_new 7 [.null, .int 0] 8))), (8, (.inl (po_dup 9))), (9, (.inl (po_push 64 11))), (11, (.inl (po_ci 78 1 2 14))), (14, (.inl (po_putr 5 1 17))), (17, (.inl (po_aload 0 18))), (18, (.inl (po_new 7 [.null, .int 0] 21))), (21, (.inl (po_dup 22))), (22, (.inl (po_push 8 24))), (24, (.inl (po_ci 78 1 2 27))), (27, (.inl (po_putr 5 2 30))), (30, (.inl (po_aload 0 31))), (31, (.inl (po_push 3 32))), (32, (.inl (po_newI 34))), (34, (.inl (po_putr 5 3 37))), (37, (.inl (po_aload 0 38))), (38, (.inl (po_push 3 39))), (39, (.inl (po_newI 41))), (41, (.inl (po_putr 5 4 44))), (44, (.inl (po_aload 0 45))), (45, (.inl (po_aload 1 46))), (46, (.inl (po_putr 5 0 49))), (49, (.inl (po_aload 0 50))), (50, (.inl (po_aload 2 51))), (51, (.inl (po_putr 5 5 54))), (54, (.inr (re_v)))]
set_option maxRecDepth 100000 in
set_option maxHeartbeats 4000000 in
theorem qs_63 : pr_aS pr_ms m_63 [(0, (.inl (po_aload 0 1))), (1, (.inl (po_oi 4))), (4, (.inl (po_aload 0 5))), (5, (.inl (po_new 7 [.null, .int 0] 8))), (8, (.inl (po_dup 9))), (9, (.inl (po_push 64 11))), (11, (.inl (po_ci 78 1 2 14))), (14, (.inl (po_putr 5 1 17))), (17, (.inl (po_aload 0 18))), (18, (.inl (po_new 7 [.null, .int 0] 21))), (21, (.inl (po_dup 22))), (22, (.inl (po_push 8 24))), (24, (.inl (po_ci 78 1 2 27))), (27, (.inl (po_putr 5 2 30))), (30, (.inl (po_aload 0 31))), (31, (.inl (po_push 3 32))), (32, (.inl (po_newI 34))), (34, (.inl (po_putr 5 3 37))), (37, (.inl (po_aload 0 38))), (38, (.inl (po_push 3 39))), (39, (.inl (po_newI 41))), (41, (.inl (po_putr 5 4 44))), (44, (.inl (po_aload 0 45))), (45, (.inl (po_aload 1 46))), (46, (.inl (po_putr 5 0 49))), (49, (.inl (po_aload 0 50))), (50, (.inl (po_aload 2 51))), (51, (.inl (po_putr 5 5 54))), (54, (.inr (re_v)))] := pr_aS_c (pr_eI (os_aload_n (q := 0) dX5_init_0)) (pr_aS_c (pr_eI (os_oi dX5_init_1 wd_359 wd_1 wd_2)) (pr_aS_c (pr_eI (os_aload_n (q := 0) dX5_init_4)) (pr_aS_c (pr_eI (os_new dX5_init_5 cf_7 wd_360 wd_4 wd_5 (by decide +kernel))) (pr_aS_c (pr_eI (os_dup dX5_init_8)) (pr_aS_c (pr_eI (os_bipush dX5_init_9 (by decide +kernel))) (pr_aS_c (pr_eI (os_ci dX5_init_11 (k := 78) rfl rfl cal_78 wd_361 wd_7 rfl rfl)) (pr_aS_c (pr_eI (os_putrF (kf := 1) dX5_init_14 cf_5 (by decide) wd_362 rfl rfl rfl (Or.inl ⟨_, rfl⟩))) (pr_aS_c (pr_eI (os_aload_n (q := 0) dX5_init_17)) (pr_aS_c (pr_eI (os_new dX5_init_18 cf_7 wd_360 wd_4 wd_5 (by decide +kernel))) (pr_aS_c (pr_eI (os_dup dX5_init_21)) (pr_aS_c (pr_eI (os_bipush dX5_init_22 (by decide +kernel))) (pr_aS_c (pr_eI (os_ci dX5_init_24 (k := 78) rfl rfl cal_78 wd_361 wd_7 rfl rfl)) (pr_aS_c (pr_eI (os_putrF (kf := 2) dX5_init_27 cf_5 (by decide) wd_363 rfl rfl rfl (Or.inl ⟨_, rfl⟩))) (pr_aS_c (pr_eI (os_aload_n (q := 0) dX5_init_30)) (pr_aS_c (pr_eI (os_iconst dX5_init_31 (by decide +kernel))) (pr_aS_c (pr_eI (os_newI dX5_init_32 wd_138)) (pr_aS_c (pr_eI (os_putrF (kf := 3) dX5_init_34 cf_5 (by decide) wd_364 rfl rfl rfl (Or.inr ⟨_, rfl⟩))) (pr_aS_c (pr_eI (os_aload_n (q := 0) dX5_init_37)) (pr_aS_c (pr_eI (os_iconst dX5_init_38 (by decide +kernel))) (pr_aS_c (pr_eI (os_newI dX5_init_39 wd_138)) (pr_aS_c (pr_eI (os_putrF (kf := 4) dX5_init_41 cf_5 (by decide) wd_365 rfl rfl rfl (Or.inr ⟨_, rfl⟩))) (pr_aS_c (pr_eI (os_aload_n (q := 0) dX5_init_44)) (pr_aS_c (pr_eI (os_aload_n (q := 1) dX5_init_45)) (pr_aS_c (pr_eI (os_putrF (kf := 0) dX5_init_46 cf_5 (by decide) wd_366 rfl rfl rfl (Or.inl ⟨_, rfl⟩))) (pr_aS_c (pr_eI (os_aload_n (q := 0) dX5_init_49)) (pr_aS_c (pr_eI (os_aload_n (q := 2) dX5_init_50)) (pr_aS_c (pr_eI (os_putr (kf := 5) dX5_init_51 cf_5 (by decide) wd_367 rfl (Or.inl ⟨_, rfl⟩))) (pr_aS_c (pr_eR (rs_v dX5_init_54 rfl)) trivial))))))))))))))))))))))))))))
theorem dX5_faultNumber_0 : decode cX5_faultNumber 0 = .ok (.aload_n 0, 1) := by decide +kernel
theorem dX5_faultNumber_1 : decode cX5_faultNumber 1 = .ok (.getfield 37, 3) := by decide +kernel
theorem dX5_faultNumber_4 : decode cX5_faultNumber 4 = .ok (.ireturn, 1) := by decide +kernel
/-- InferResolve$Reader.faultNumber()I -/
noncomputable def qc_64 : pr_Co := [(0, (.inl (po_aload 0 1))), (1, (.inl (po_get 5 13 4))), (4, (.inr (re_i)))]
set_option maxRecDepth 100000 in
set_option maxHeartbeats 4000000 in
theorem qs_64 : pr_aS pr_ms m_64 [(0, (.inl (po_aload 0 1))), (1, (.inl (po_get 5 13 4))), (4, (.inr (re_i)))] := pr_aS_c (pr_eI (os_aload_n (q := 0) dX5_faultNumber_0)) (pr_aS_c (pr_eI (os_get (kf := 13) dX5_faultNumber_1 cf_5 (by decide) wd_368)) (pr_aS_c (pr_eR (rs_i dX5_faultNumber_4 rfl)) trivial))
theorem dX5_faultPlace_0 : decode cX5_faultPlace 0 = .ok (.aload_n 0, 1) := by decide +kernel
theorem dX5_faultPlace_1 : decode cX5_faultPlace 1 = .ok (.getfield 41, 3) := by decide +kernel
theorem dX5_faultPlace_4 : decode cX5_faultPlace 4 = .ok (.ireturn, 1) := by decide +kernel
/-- InferResolve$Reader.faultPlace()I -/
noncomputable def qc_65 : pr_Co := [(0, (.inl (po_aload 0 1))), (1, (.inl (po_get 5 14 4))), (4, (.inr (re_i)))]
set_option maxRecDepth 100000 in
set_option maxHeartbeats 4000000 in
theorem qs_65 : pr_aS pr_ms m_65 [(0, (.inl (po_aload 0 1))), (1, (.inl (po_get 5 14 4))), (4, (.inr (re_i)))] := pr_aS_c (pr_eI (os_aload_n (q := 0) dX5_faultPlace_0)) (pr_aS_c (pr_eI (os_get (kf := 14) dX5_faultPlace_1 cf_5 (by decide) wd_369)) (pr_aS_c (pr_eR (rs_i dX5_faultPlace_4 rfl)) trivial))
theorem dX5_readKinds_0 : decode cX5_readKinds 0 = .ok (.aload_n 1, 1) := by decide +kernel
theorem dX5_readKinds_1 : decode cX5_readKinds 1 = .ok (.invokevirtual 51, 3) := by decide +kernel
theorem dX5_readKinds_4 : decode cX5_readKinds 4 = .ok (.aload_n 0, 1) := by decide +kernel
theorem dX5_readKinds_5 : decode cX5_readKinds 5 = .ok (.aload_n 1, 1) := by decide +kernel
theorem dX5_readKinds_6 : decode cX5_readKinds 6 = .ok (.iconst 0, 1) := by decide +kernel
theorem dX5_readKinds_7 : decode cX5_readKinds 7 = .ok (.invokevirtual 56, 3) := by decide +kernel
theorem dX5_readKinds_10 : decode cX5_readKinds 10 = .ok (.aload_n 0, 1) := by decide +kernel
theorem dX5_readKinds_11 : decode cX5_readKinds 11 = .ok (.iconst 1, 1) := by decide +kernel
theorem dX5_readKinds_12 : decode cX5_readKinds 12 = .ok (.putfield 60, 3) := by decide +kernel
theorem dX5_readKinds_15 : decode cX5_readKinds 15 = .ok (.iconst 0, 1) := by decide +kernel
theorem dX5_readKinds_16 : decode cX5_readKinds 16 = .ok (.istore_n 2, 1) := by decide +kernel
theorem dX5_readKinds_17 : decode cX5_readKinds 17 = .ok (.iload_n 2, 1) := by decide +kernel
theorem dX5_readKinds_18 : decode cX5_readKinds 18 = .ok (.sipush 600, 3) := by decide +kernel
theorem dX5_readKinds_21 : decode cX5_readKinds 21 = .ok (.if_icmp .ge 25, 3) := by decide +kernel
theorem dX5_readKinds_24 : decode cX5_readKinds 24 = .ok (.aload_n 0, 1) := by decide +kernel
theorem dX5_readKinds_25 : decode cX5_readKinds 25 = .ok (.getfield 64, 3) := by decide +kernel
theorem dX5_readKinds_28 : decode cX5_readKinds 28 = .ok (.ifCond .eq 18, 3) := by decide +kernel
theorem dX5_readKinds_46 : decode cX5_readKinds 46 = .ok (.iconst 1, 1) := by decide +kernel
theorem dX5_readKinds_47 : decode cX5_readKinds 47 = .ok (.ireturn, 1) := by decide +kernel
/-- InferResolve$Reader.readKinds(LInferResolve$Kinds;)Z -/
noncomputable def qc_66 : pr_Co := [(0, (.inl (po_aload 1 1))), (1, (.inl (po_cv 57 0 2 1 4))), (4, (.inl (po_aload 0 5))), (5, (.inl (po_aload 1 6))), (6, (.inl (po_push 0 7))), (7, (.inl (po_cv 69 2 5 3 10))), (10, (.inl (po_aload 0 11))), (11, (.inl (po_push 1 12))), (12, (.inl (po_putz 5 8 15))), (15, (.inl (po_push 0 16))), (16, (.inl (po_istore 2 17))), (17, (.inl (po_iload 2 18))), (18, (.inl (po_push 600 21))), (21, (.inl (po_if2 (fun x y => decide (y ≤ x)) 46 24))), (24, (.inl (po_aload 0 25))), (25, (.inl (po_get 5 9 28))), (28, (.inl (po_if1 (fun x => decide (x = 0)) 46 31))), (46, (.inl (po_push 1 47))), (47, (.inr (re_z)))]
set_option maxRecDepth 100000 in
set_option maxHeartbeats 4000000 in
theorem qs_66 : pr_aS pr_ms m_66 [(0, (.inl (po_aload 1 1))), (1, (.inl (po_cv 57 0 2 1 4))), (4, (.inl (po_aload 0 5))), (5, (.inl (po_aload 1 6))), (6, (.inl (po_push 0 7))), (7, (.inl (po_cv 69 2 5 3 10))), (10, (.inl (po_aload 0 11))), (11, (.inl (po_push 1 12))), (12, (.inl (po_putz 5 8 15))), (15, (.inl (po_push 0 16))), (16, (.inl (po_istore 2 17))), (17, (.inl (po_iload 2 18))), (18, (.inl (po_push 600 21))), (21, (.inl (po_if2 (fun x y => decide (y ≤ x)) 46 24))), (24, (.inl (po_aload 0 25))), (25, (.inl (po_get 5 9 28))), (28, (.inl (po_if1 (fun x => decide (x = 0)) 46 31))), (46, (.inl (po_push 1 47))), (47, (.inr (re_z)))] := pr_aS_c (pr_eI (os_aload_n (q := 1) dX5_readKinds_0)) (pr_aS_c (pr_eI (os_cv dX5_readKinds_1 (k := 57) rfl rfl cal_57 wd_370 wd_372 wd_371 rfl)) (pr_aS_c (pr_eI (os_aload_n (q := 0) dX5_readKinds_4)) (pr_aS_c (pr_eI (os_aload_n (q := 1) dX5_readKinds_5)) (pr_aS_c (pr_eI (os_iconst dX5_readKinds_6 (by decide +kernel))) (pr_aS_c (pr_eI (os_cv dX5_readKinds_7 (k := 69) rfl rfl cal_69 wd_373 wd_375 wd_374 rfl)) (pr_aS_c (pr_eI (os_aload_n (q := 0) dX5_readKinds_10)) (pr_aS_c (pr_eI (os_iconst dX5_readKinds_11 (by decide +kernel))) (pr_aS_c (pr_eI (os_putz (kf := 8) dX5_readKinds_12 cf_5 (by decide) wd_376 rfl rfl)) (pr_aS_c (pr_eI (os_iconst dX5_readKinds_15 (by decide +kernel))) (pr_aS_c (pr_eI (os_istore_n (q := 2) dX5_readKinds_16 (by decide))) (pr_aS_c (pr_eI (os_iload_n (q := 2) dX5_readKinds_17)) (pr_aS_c (pr_eI (os_sipush dX5_readKinds_18 (by decide +kernel))) (pr_aS_c (pr_eI (os_icmp_ge dX5_readKinds_21 (by decide))) (pr_aS_c (pr_eI (os_aload_n (q := 0) dX5_readKinds_24)) (pr_aS_c (pr_eI (os_get (kf := 9) dX5_readKinds_25 cf_5 (by decide) wd_377)) (pr_aS_c (pr_eI (os_if_eq dX5_readKinds_28 (by decide))) (pr_aS_c (pr_eI (os_iconst dX5_readKinds_46 (by decide +kernel))) (pr_aS_c (pr_eR (rs_z dX5_readKinds_47 rfl)) trivial))))))))))))))))))
theorem dX5_readPair_0 : decode cX5_readPair 0 = .ok (.aload_n 0, 1) := by decide +kernel
theorem dX5_readPair_1 : decode cX5_readPair 1 = .ok (.aload_n 1, 1) := by decide +kernel
theorem dX5_readPair_2 : decode cX5_readPair 2 = .ok (.iload_n 2, 1) := by decide +kernel
theorem dX5_readPair_3 : decode cX5_readPair 3 = .ok (.invokevirtual 56, 3) := by decide +kernel
theorem dX5_readPair_6 : decode cX5_readPair 6 = .ok (.aload_n 0, 1) := by decide +kernel
theorem dX5_readPair_7 : decode cX5_readPair 7 = .ok (.getfield 20, 3) := by decide +kernel
theorem dX5_readPair_10 : decode cX5_readPair 10 = .ok (.aload_n 0, 1) := by decide +kernel
theorem dX5_readPair_11 : decode cX5_readPair 11 = .ok (.getfield 14, 3) := by decide +kernel
theorem dX5_readPair_14 : decode cX5_readPair 14 = .ok (.invokevirtual 71, 3) := by decide +kernel
theorem dX5_readPair_17 : decode cX5_readPair 17 = .ok (.invokevirtual 75, 3) := by decide +kernel
theorem dX5_readPair_20 : decode cX5_readPair 20 = .ok (.aload_n 0, 1) := by decide +kernel
theorem dX5_readPair_21 : decode cX5_readPair 21 = .ok (.iconst 0, 1) := by decide +kernel
theorem dX5_readPair_22 : decode cX5_readPair 22 = .ok (.iconst 0, 1) := by decide +kernel
theorem dX5_readPair_23 : decode cX5_readPair 23 = .ok (.invokevirtual 78, 3) := by decide +kernel
theorem dX5_readPair_26 : decode cX5_readPair 26 = .ok (.ifCond .ne 5, 3) := by decide +kernel
theorem dX5_readPair_29 : decode cX5_readPair 29 = .ok (.iconst 0, 1) := by decide +kernel
theorem dX5_readPair_30 : decode cX5_readPair 30 = .ok (.ireturn, 1) := by decide +kernel
/-- InferResolve$Reader.readPair(LInferResolve$Kinds;IZ)Z -/
noncomputable def qc_67 : pr_Co := [(0, (.inl (po_aload 0 1))), (1, (.inl (po_aload 1 2))), (2, (.inl (po_iload 2 3))), (3, (.inl (po_cv 69 2 5 3 6))), (6, (.inl (po_aload 0 7))), (7, (.inl (po_get 5 2 10))), (10, (.inl (po_aload 0 11))), (11, (.inl (po_get 5 1 14))), (14, (.inl (po_cv 79 0 7 1 17))), (17, (.inl (po_cv 81 1 7 2 20))), (20, (.inl (po_aload 0 21))), (21, (.inl (po_push 0 22))), (22, (.inl (po_push 0 23))), (23, (.inl (po_cv 70 2 5 8 26))), (26, (.inl (po_if1 (fun x => !decide (x = 0)) 31 29))), (29, (.inl (po_push 0 30))), (30, (.inr (re_z)))]
set_option maxRecDepth 100000 in
set_option maxHeartbeats 4000000 in
theorem qs_67 : pr_aS pr_ms m_67 [(0, (.inl (po_aload 0 1))), (1, (.inl (po_aload 1 2))), (2, (.inl (po_iload 2 3))), (3, (.inl (po_cv 69 2 5 3 6))), (6, (.inl (po_aload 0 7))), (7, (.inl (po_get 5 2 10))), (10, (.inl (po_aload 0 11))), (11, (.inl (po_get 5 1 14))), (14, (.inl (po_cv 79 0 7 1 17))), (17, (.inl (po_cv 81 1 7 2 20))), (20, (.inl (po_aload 0 21))), (21, (.inl (po_push 0 22))), (22, (.inl (po_push 0 23))), (23, (.inl (po_cv 70 2 5 8 26))), (26, (.inl (po_if1 (fun x => !decide (x = 0)) 31 29))), (29, (.inl (po_push 0 30))), (30, (.inr (re_z)))] := pr_aS_c (pr_eI (os_aload_n (q := 0) dX5_readPair_0)) (pr_aS_c (pr_eI (os_aload_n (q := 1) dX5_readPair_1)) (pr_aS_c (pr_eI (os_iload_n (q := 2) dX5_readPair_2)) (pr_aS_c (pr_eI (os_cv dX5_readPair_3 (k := 69) rfl rfl cal_69 wd_373 wd_375 wd_374 rfl)) (pr_aS_c (pr_eI (os_aload_n (q := 0) dX5_readPair_6)) (pr_aS_c (pr_eI (os_get (kf := 2) dX5_readPair_7 cf_5 (by decide) wd_363)) (pr_aS_c (pr_eI (os_aload_n (q := 0) dX5_readPair_10)) (pr_aS_c (pr_eI (os_get (kf := 1) dX5_readPair_11 cf_5 (by decide) wd_362)) (pr_aS_c (pr_eI (os_cv dX5_readPair_14 (k := 79) rfl rfl cal_79 wd_378 wd_102 wd_101 rfl)) (pr_aS_c (pr_eI (os_cv dX5_readPair_17 (k := 81) rfl rfl cal_81 wd_379 wd_334 wd_333 rfl)) (pr_aS_c (pr_eI (os_aload_n (q := 0) dX5_readPair_20)) (pr_aS_c (pr_eI (os_iconst dX5_readPair_21 (by decide +kernel))) (pr_aS_c (pr_eI (os_iconst dX5_readPair_22 (by decide +kernel))) (pr_aS_c (pr_eI (os_cv dX5_readPair_23 (k := 70) rfl rfl cal_70 wd_380 wd_382 wd_381 rfl)) (pr_aS_c (pr_eI (os_if_ne dX5_readPair_26 (by decide))) (pr_aS_c (pr_eI (os_iconst dX5_readPair_29 (by decide +kernel))) (pr_aS_c (pr_eR (rs_z dX5_readPair_30 rfl)) trivial))))))))))))))))
theorem dX5_readTypes_0 : decode cX5_readTypes 0 = .ok (.aload_n 0, 1) := by decide +kernel
theorem dX5_readTypes_1 : decode cX5_readTypes 1 = .ok (.aload_n 1, 1) := by decide +kernel
theorem dX5_readTypes_2 : decode cX5_readTypes 2 = .ok (.iconst 0, 1) := by decide +kernel
theorem dX5_readTypes_3 : decode cX5_readTypes 3 = .ok (.invokevirtual 56, 3) := by decide +kernel
theorem dX5_readTypes_6 : decode cX5_readTypes 6 = .ok (.iconst 1, 1) := by decide +kernel
theorem dX5_readTypes_7 : decode cX5_readTypes 7 = .ok (.istore_n 2, 1) := by decide +kernel
theorem dX5_readTypes_8 : decode cX5_readTypes 8 = .ok (.iconst 0, 1) := by decide +kernel
theorem dX5_readTypes_9 : decode cX5_readTypes 9 = .ok (.istore_n 3, 1) := by decide +kernel
theorem dX5_readTypes_10 : decode cX5_readTypes 10 = .ok (.iload_n 3, 1) := by decide +kernel
theorem dX5_readTypes_11 : decode cX5_readTypes 11 = .ok (.bipush 6, 2) := by decide +kernel
theorem dX5_readTypes_13 : decode cX5_readTypes 13 = .ok (.if_icmp .gt 71, 3) := by decide +kernel
theorem dX5_readTypes_16 : decode cX5_readTypes 16 = .ok (.iload_n 2, 1) := by decide +kernel
theorem dX5_readTypes_17 : decode cX5_readTypes 17 = .ok (.ifCond .eq 67, 3) := by decide +kernel
theorem dX5_readTypes_20 : decode cX5_readTypes 20 = .ok (.aload_n 0, 1) := by decide +kernel
theorem dX5_readTypes_21 : decode cX5_readTypes 21 = .ok (.getfield 20, 3) := by decide +kernel
theorem dX5_readTypes_24 : decode cX5_readTypes 24 = .ok (.aload_n 0, 1) := by decide +kernel
theorem dX5_readTypes_25 : decode cX5_readTypes 25 = .ok (.getfield 14, 3) := by decide +kernel
theorem dX5_readTypes_28 : decode cX5_readTypes 28 = .ok (.invokevirtual 71, 3) := by decide +kernel
theorem dX5_readTypes_31 : decode cX5_readTypes 31 = .ok (.invokevirtual 75, 3) := by decide +kernel
theorem dX5_readTypes_34 : decode cX5_readTypes 34 = .ok (.aload_n 0, 1) := by decide +kernel
theorem dX5_readTypes_35 : decode cX5_readTypes 35 = .ok (.iconst 0, 1) := by decide +kernel
theorem dX5_readTypes_36 : decode cX5_readTypes 36 = .ok (.iload_n 3, 1) := by decide +kernel
theorem dX5_readTypes_37 : decode cX5_readTypes 37 = .ok (.bipush 6, 2) := by decide +kernel
theorem dX5_readTypes_39 : decode cX5_readTypes 39 = .ok (.if_icmp .lt 7, 3) := by decide +kernel
theorem dX5_readTypes_46 : decode cX5_readTypes 46 = .ok (.iconst 0, 1) := by decide +kernel
theorem dX5_readTypes_47 : decode cX5_readTypes 47 = .ok (.invokevirtual 78, 3) := by decide +kernel
theorem dX5_readTypes_50 : decode cX5_readTypes 50 = .ok (.ifCond .ne 5, 3) := by decide +kernel
theorem dX5_readTypes_53 : decode cX5_readTypes 53 = .ok (.iconst 0, 1) := by decide +kernel
theorem dX5_readTypes_54 : decode cX5_readTypes 54 = .ok (.ireturn, 1) := by decide +kernel
/-- InferResolve$Reader.readTypes(LInferResolve$Kinds;)Z -/
noncomputable def qc_68 : pr_Co := [(0, (.inl (po_aload 0 1))), (1, (.inl (po_aload 1 2))), (2, (.inl (po_push 0 3))), (3, (.inl (po_cv 69 2 5 3 6))), (6, (.inl (po_push 1 7))), (7, (.inl (po_istore 2 8))), (8, (.inl (po_push 0 9))), (9, (.inl (po_istore 3 10))), (10, (.inl (po_iload 3 11))), (11, (.inl (po_push 6 13))), (13, (.inl (po_if2 (fun x y => decide (y < x)) 84 16))), (16, (.inl (po_iload 2 17))), (17, (.inl (po_if1 (fun x => decide (x = 0)) 84 20))), (20, (.inl (po_aload 0 21))), (21, (.inl (po_get 5 2 24))), (24, (.inl (po_aload 0 25))), (25, (.inl (po_get 5 1 28))), (28, (.inl (po_cv 79 0 7 1 31))), (31, (.inl (po_cv 81 1 7 2 34))), (34, (.inl (po_aload 0 35))), (35, (.inl (po_push 0 36))), (36, (.inl (po_iload 3 37))), (37, (.inl (po_push 6 39))), (39, (.inl (po_if2 (fun x y => decide (x < y)) 46 42))), (46, (.inl (po_push 0 47))), (47, (.inl (po_cv 70 2 5 8 50))), (50, (.inl (po_if1 (fun x => !decide (x = 0)) 55 53))), (53, (.inl (po_push 0 54))), (54, (.inr (re_z)))]
set_option maxRecDepth 100000 in
set_option maxHeartbeats 4000000 in
theorem qs_68 : pr_aS pr_ms m_68 [(0, (.inl (po_aload 0 1))), (1, (.inl (po_aload 1 2))), (2, (.inl (po_push 0 3))), (3, (.inl (po_cv 69 2 5 3 6))), (6, (.inl (po_push 1 7))), (7, (.inl (po_istore 2 8))), (8, (.inl (po_push 0 9))), (9, (.inl (po_istore 3 10))), (10, (.inl (po_iload 3 11))), (11, (.inl (po_push 6 13))), (13, (.inl (po_if2 (fun x y => decide (y < x)) 84 16))), (16, (.inl (po_iload 2 17))), (17, (.inl (po_if1 (fun x => decide (x = 0)) 84 20))), (20, (.inl (po_aload 0 21))), (21, (.inl (po_get 5 2 24))), (24, (.inl (po_aload 0 25))), (25, (.inl (po_get 5 1 28))), (28, (.inl (po_cv 79 0 7 1 31))), (31, (.inl (po_cv 81 1 7 2 34))), (34, (.inl (po_aload 0 35))), (35, (.inl (po_push 0 36))), (36, (.inl (po_iload 3 37))), (37, (.inl (po_push 6 39))), (39, (.inl (po_if2 (fun x y => decide (x < y)) 46 42))), (46, (.inl (po_push 0 47))), (47, (.inl (po_cv 70 2 5 8 50))), (50, (.inl (po_if1 (fun x => !decide (x = 0)) 55 53))), (53, (.inl (po_push 0 54))), (54, (.inr (re_z)))] := pr_aS_c (pr_eI (os_aload_n (q := 0) dX5_readTypes_0)) (pr_aS_c (pr_eI (os_aload_n (q := 1) dX5_readTypes_1)) (pr_aS_c (pr_eI (os_iconst dX5_readTypes_2 (by decide +kernel))) (pr_aS_c (pr_eI (os_cv dX5_readTypes_3 (k := 69) rfl rfl cal_69 wd_373 wd_375 wd_374 rfl)) (pr_aS_c (pr_eI (os_iconst dX5_readTypes_6 (by decide +kernel))) (pr_aS_c (pr_eI (os_istore_n (q := 2) dX5_readTypes_7 (by decide))) (pr_aS_c (pr_eI (os_iconst dX5_readTypes_8 (by decide +kernel))) (pr_aS_c (pr_eI (os_istore_n (q := 3) dX5_readTypes_9 (by decide))) (pr_aS_c (pr_eI (os_iload_n (q := 3) dX5_readTypes_10)) (pr_aS_c (pr_eI (os_bipush dX5_readTypes_11 (by decide +kernel))) (pr_aS_c (pr_eI (os_icmp_gt dX5_readTypes_13 (by decide))) (pr_aS_c (pr_eI (os_iload_n (q := 2) dX5_readTypes_16)) (pr_aS_c (pr_eI (os_if_eq dX5_readTypes_17 (by decide))) (pr_aS_c (pr_eI (os_aload_n (q := 0) dX5_readTypes_20)) (pr_aS_c (pr_eI (os_get (kf := 2) dX5_readTypes_21 cf_5 (by decide) wd_363)) (pr_aS_c (pr_eI (os_aload_n (q := 0) dX5_readTypes_24)) (pr_aS_c (pr_eI (os_get (kf := 1) dX5_readTypes_25 cf_5 (by decide) wd_362)) (pr_aS_c (pr_eI (os_cv dX5_readTypes_28 (k := 79) rfl rfl cal_79 wd_378 wd_102 wd_101 rfl)) (pr_aS_c (pr_eI (os_cv dX5_readTypes_31 (k := 81) rfl rfl cal_81 wd_379 wd_334 wd_333 rfl)) (pr_aS_c (pr_eI (os_aload_n (q := 0) dX5_readTypes_34)) (pr_aS_c (pr_eI (os_iconst dX5_readTypes_35 (by decide +kernel))) (pr_aS_c (pr_eI (os_iload_n (q := 3) dX5_readTypes_36)) (pr_aS_c (pr_eI (os_bipush dX5_readTypes_37 (by decide +kernel))) (pr_aS_c (pr_eI (os_icmp_lt dX5_readTypes_39 (by decide))) (pr_aS_c (pr_eI (os_iconst dX5_readTypes_46 (by decide +kernel))) (pr_aS_c (pr_eI (os_cv dX5_readTypes_47 (k := 70) rfl rfl cal_70 wd_380 wd_382 wd_381 rfl)) (pr_aS_c (pr_eI (os_if_ne dX5_readTypes_50 (by decide))) (pr_aS_c (pr_eI (os_iconst dX5_readTypes_53 (by decide +kernel))) (pr_aS_c (pr_eR (rs_z dX5_readTypes_54 rfl)) trivial))))))))))))))))))))))))))))
theorem dX5_begin_0 : decode cX5_begin 0 = .ok (.aload_n 0, 1) := by decide +kernel
theorem dX5_begin_1 : decode cX5_begin 1 = .ok (.aload_n 1, 1) := by decide +kernel
theorem dX5_begin_2 : decode cX5_begin 2 = .ok (.putfield 33, 3) := by decide +kernel
theorem dX5_begin_5 : decode cX5_begin 5 = .ok (.aload_n 0, 1) := by decide +kernel
theorem dX5_begin_6 : decode cX5_begin 6 = .ok (.iload_n 2, 1) := by decide +kernel
theorem dX5_begin_7 : decode cX5_begin 7 = .ok (.putfield 88, 3) := by decide +kernel
theorem dX5_begin_10 : decode cX5_begin 10 = .ok (.aload_n 0, 1) := by decide +kernel
theorem dX5_begin_11 : decode cX5_begin 11 = .ok (.iconst 0, 1) := by decide +kernel
theorem dX5_begin_12 : decode cX5_begin 12 = .ok (.putfield 60, 3) := by decide +kernel
theorem dX5_begin_15 : decode cX5_begin 15 = .ok (.aload_n 0, 1) := by decide +kernel
theorem dX5_begin_16 : decode cX5_begin 16 = .ok (.iconst 0, 1) := by decide +kernel
theorem dX5_begin_17 : decode cX5_begin 17 = .ok (.putfield 91, 3) := by decide +kernel
theorem dX5_begin_20 : decode cX5_begin 20 = .ok (.aload_n 0, 1) := by decide +kernel
theorem dX5_begin_21 : decode cX5_begin 21 = .ok (.getfield 14, 3) := by decide +kernel
theorem dX5_begin_24 : decode cX5_begin 24 = .ok (.iconst 0, 1) := by decide +kernel
theorem dX5_begin_25 : decode cX5_begin 25 = .ok (.invokevirtual 94, 3) := by decide +kernel
theorem dX5_begin_28 : decode cX5_begin 28 = .ok (.aload_n 0, 1) := by decide +kernel
theorem dX5_begin_29 : decode cX5_begin 29 = .ok (.getfield 20, 3) := by decide +kernel
theorem dX5_begin_32 : decode cX5_begin 32 = .ok (.iconst 0, 1) := by decide +kernel
theorem dX5_begin_33 : decode cX5_begin 33 = .ok (.invokevirtual 94, 3) := by decide +kernel
theorem dX5_begin_36 : decode cX5_begin 36 = .ok (.aload_n 0, 1) := by decide +kernel
theorem dX5_begin_37 : decode cX5_begin 37 = .ok (.iconst 0, 1) := by decide +kernel
theorem dX5_begin_38 : decode cX5_begin 38 = .ok (.putfield 37, 3) := by decide +kernel
theorem dX5_begin_41 : decode cX5_begin 41 = .ok (.aload_n 0, 1) := by decide +kernel
theorem dX5_begin_42 : decode cX5_begin 42 = .ok (.iconst 0, 1) := by decide +kernel
theorem dX5_begin_43 : decode cX5_begin 43 = .ok (.putfield 41, 3) := by decide +kernel
theorem dX5_begin_46 : decode cX5_begin 46 = .ok (.aload_n 0, 1) := by decide +kernel
theorem dX5_begin_47 : decode cX5_begin 47 = .ok (.iconst 0, 1) := by decide +kernel
theorem dX5_begin_48 : decode cX5_begin 48 = .ok (.putfield 97, 3) := by decide +kernel
theorem dX5_begin_51 : decode cX5_begin 51 = .ok (.aload_n 0, 1) := by decide +kernel
theorem dX5_begin_52 : decode cX5_begin 52 = .ok (.invokevirtual 85, 3) := by decide +kernel
theorem dX5_begin_55 : decode cX5_begin 55 = .ok (.return_, 1) := by decide +kernel
/-- InferResolve$Reader.begin(LInferResolve$Kinds;I)V -/
noncomputable def qc_69 : pr_Co := [(0, (.inl (po_aload 0 1))), (1, (.inl (po_aload 1 2))), (2, (.inl (po_putr 5 5 5))), (5, (.inl (po_aload 0 6))), (6, (.inl (po_iload 2 7))), (7, (.inl (po_puti 5 7 10))), (10, (.inl (po_aload 0 11))), (11, (.inl (po_push 0 12))), (12, (.inl (po_putz 5 8 15))), (15, (.inl (po_aload 0 16))), (16, (.inl (po_push 0 17))), (17, (.inl (po_puti 5 6 20))), (20, (.inl (po_aload 0 21))), (21, (.inl (po_get 5 1 24))), (24, (.inl (po_push 0 25))), (25, (.inl (po_cv 83 1 7 2 28))), (28, (.inl (po_aload 0 29))), (29, (.inl (po_get 5 2 32))), (32, (.inl (po_push 0 33))), (33, (.inl (po_cv 83 1 7 2 36))), (36, (.inl (po_aload 0 37))), (37, (.inl (po_push 0 38))), (38, (.inl (po_puti 5 13 41))), (41, (.inl (po_aload 0 42))), (42, (.inl (po_push 0 43))), (43, (.inl (po_puti 5 14 46))), (46, (.inl (po_aload 0 47))), (47, (.inl (po_push 0 48))), (48, (.inl (po_puti 5 11 51))), (51, (.inl (po_aload 0 52))), (52, (.inl (po_cv 73 0 5 4 55))), (55, (.inr (re_v)))]
set_option maxRecDepth 100000 in
set_option maxHeartbeats 4000000 in
theorem qs_69 : pr_aS pr_ms m_69 [(0, (.inl (po_aload 0 1))), (1, (.inl (po_aload 1 2))), (2, (.inl (po_putr 5 5 5))), (5, (.inl (po_aload 0 6))), (6, (.inl (po_iload 2 7))), (7, (.inl (po_puti 5 7 10))), (10, (.inl (po_aload 0 11))), (11, (.inl (po_push 0 12))), (12, (.inl (po_putz 5 8 15))), (15, (.inl (po_aload 0 16))), (16, (.inl (po_push 0 17))), (17, (.inl (po_puti 5 6 20))), (20, (.inl (po_aload 0 21))), (21, (.inl (po_get 5 1 24))), (24, (.inl (po_push 0 25))), (25, (.inl (po_cv 83 1 7 2 28))), (28, (.inl (po_aload 0 29))), (29, (.inl (po_get 5 2 32))), (32, (.inl (po_push 0 33))), (33, (.inl (po_cv 83 1 7 2 36))), (36, (.inl (po_aload 0 37))), (37, (.inl (po_push 0 38))), (38, (.inl (po_puti 5 13 41))), (41, (.inl (po_aload 0 42))), (42, (.inl (po_push 0 43))), (43, (.inl (po_puti 5 14 46))), (46, (.inl (po_aload 0 47))), (47, (.inl (po_push 0 48))), (48, (.inl (po_puti 5 11 51))), (51, (.inl (po_aload 0 52))), (52, (.inl (po_cv 73 0 5 4 55))), (55, (.inr (re_v)))] := pr_aS_c (pr_eI (os_aload_n (q := 0) dX5_begin_0)) (pr_aS_c (pr_eI (os_aload_n (q := 1) dX5_begin_1)) (pr_aS_c (pr_eI (os_putr (kf := 5) dX5_begin_2 cf_5 (by decide) wd_367 rfl (Or.inl ⟨_, rfl⟩))) (pr_aS_c (pr_eI (os_aload_n (q := 0) dX5_begin_5)) (pr_aS_c (pr_eI (os_iload_n (q := 2) dX5_begin_6)) (pr_aS_c (pr_eI (os_puti (kf := 7) dX5_begin_7 cf_5 (by decide) wd_383 rfl rfl)) (pr_aS_c (pr_eI (os_aload_n (q := 0) dX5_begin_10)) (pr_aS_c (pr_eI (os_iconst dX5_begin_11 (by decide +kernel))) (pr_aS_c (pr_eI (os_putz (kf := 8) dX5_begin_12 cf_5 (by decide) wd_376 rfl rfl)) (pr_aS_c (pr_eI (os_aload_n (q := 0) dX5_begin_15)) (pr_aS_c (pr_eI (os_iconst dX5_begin_16 (by decide +kernel))) (pr_aS_c (pr_eI (os_puti (kf := 6) dX5_begin_17 cf_5 (by decide) wd_384 rfl rfl)) (pr_aS_c (pr_eI (os_aload_n (q := 0) dX5_begin_20)) (pr_aS_c (pr_eI (os_get (kf := 1) dX5_begin_21 cf_5 (by decide) wd_362)) (pr_aS_c (pr_eI (os_iconst dX5_begin_24 (by decide +kernel))) (pr_aS_c (pr_eI (os_cv dX5_begin_25 (k := 83) rfl rfl cal_83 wd_385 wd_116 wd_115 rfl)) (pr_aS_c (pr_eI (os_aload_n (q := 0) dX5_begin_28)) (pr_aS_c (pr_eI (os_get (kf := 2) dX5_begin_29 cf_5 (by decide) wd_363)) (pr_aS_c (pr_eI (os_iconst dX5_begin_32 (by decide +kernel))) (pr_aS_c (pr_eI (os_cv dX5_begin_33 (k := 83) rfl rfl cal_83 wd_385 wd_116 wd_115 rfl)) (pr_aS_c (pr_eI (os_aload_n (q := 0) dX5_begin_36)) (pr_aS_c (pr_eI (os_iconst dX5_begin_37 (by decide +kernel))) (pr_aS_c (pr_eI (os_puti (kf := 13) dX5_begin_38 cf_5 (by decide) wd_368 rfl rfl)) (pr_aS_c (pr_eI (os_aload_n (q := 0) dX5_begin_41)) (pr_aS_c (pr_eI (os_iconst dX5_begin_42 (by decide +kernel))) (pr_aS_c (pr_eI (os_puti (kf := 14) dX5_begin_43 cf_5 (by decide) wd_369 rfl rfl)) (pr_aS_c (pr_eI (os_aload_n (q := 0) dX5_begin_46)) (pr_aS_c (pr_eI (os_iconst dX5_begin_47 (by decide +kernel))) (pr_aS_c (pr_eI (os_puti (kf := 11) dX5_begin_48 cf_5 (by decide) wd_386 rfl rfl)) (pr_aS_c (pr_eI (os_aload_n (q := 0) dX5_begin_51)) (pr_aS_c (pr_eI (os_cv dX5_begin_52 (k := 73) rfl rfl cal_73 wd_387 wd_389 wd_388 rfl)) (pr_aS_c (pr_eR (rs_v dX5_begin_55 rfl)) trivial)))))))))))))))))))))))))))))))
theorem dX5_readType_0 : decode cX5_readType 0 = .ok (.iload_n 2, 1) := by decide +kernel
theorem dX5_readType_1 : decode cX5_readType 1 = .ok (.ifCond .ne 8, 3) := by decide +kernel
theorem dX5_readType_4 : decode cX5_readType 4 = .ok (.iload_n 1, 1) := by decide +kernel
theorem dX5_readType_5 : decode cX5_readType 5 = .ok (.iconst 4, 1) := by decide +kernel
theorem dX5_readType_6 : decode cX5_readType 6 = .ok (.if_icmp .le 7, 3) := by decide +kernel
theorem dX5_readType_13 : decode cX5_readType 13 = .ok (.iconst 0, 1) := by decide +kernel
theorem dX5_readType_14 : decode cX5_readType 14 = .ok (.istore_n 3, 1) := by decide +kernel
theorem dX5_readType_15 : decode cX5_readType 15 = .ok (.aload_n 0, 1) := by decide +kernel
theorem dX5_readType_16 : decode cX5_readType 16 = .ok (.getfield 64, 3) := by decide +kernel
theorem dX5_readType_19 : decode cX5_readType 19 = .ok (.iconst 3, 1) := by decide +kernel
theorem dX5_readType_20 : decode cX5_readType 20 = .ok (.if_icmp .ne 32, 3) := by decide +kernel
theorem dX5_readType_52 : decode cX5_readType 52 = .ok (.aload_n 0, 1) := by decide +kernel
theorem dX5_readType_53 : decode cX5_readType 53 = .ok (.getfield 64, 3) := by decide +kernel
theorem dX5_readType_56 : decode cX5_readType 56 = .ok (.iconst 2, 1) := by decide +kernel
theorem dX5_readType_57 : decode cX5_readType 57 = .ok (.if_icmp .eq 8, 3) := by decide +kernel
theorem dX5_readType_60 : decode cX5_readType 60 = .ok (.aload_n 0, 1) := by decide +kernel
theorem dX5_readType_61 : decode cX5_readType 61 = .ok (.invokevirtual 82, 3) := by decide +kernel
theorem dX5_readType_64 : decode cX5_readType 64 = .ok (.ireturn, 1) := by decide +kernel
/-- InferResolve$Reader.readType(IZ)Z -/
noncomputable def qc_70 : pr_Co := [(0, (.inl (po_iload 2 1))), (1, (.inl (po_if1 (fun x => !decide (x = 0)) 9 4))), (4, (.inl (po_iload 1 5))), (5, (.inl (po_push 4 6))), (6, (.inl (po_if2 (fun x y => decide (x ≤ y)) 13 9))), (13, (.inl (po_push 0 14))), (14, (.inl (po_istore 3 15))), (15, (.inl (po_aload 0 16))), (16, (.inl (po_get 5 9 19))), (19, (.inl (po_push 3 20))), (20, (.inl (po_if2 (fun x y => !decide (x = y)) 52 23))), (52, (.inl (po_aload 0 53))), (53, (.inl (po_get 5 9 56))), (56, (.inl (po_push 2 57))), (57, (.inl (po_if2 (fun x y => decide (x = y)) 65 60))), (60, (.inl (po_aload 0 61))), (61, (.inl (po_cv 71 0 5 1 64))), (64, (.inr (re_z)))]
set_option maxRecDepth 100000 in
set_option maxHeartbeats 4000000 in
theorem qs_70 : pr_aS pr_ms m_70 [(0, (.inl (po_iload 2 1))), (1, (.inl (po_if1 (fun x => !decide (x = 0)) 9 4))), (4, (.inl (po_iload 1 5))), (5, (.inl (po_push 4 6))), (6, (.inl (po_if2 (fun x y => decide (x ≤ y)) 13 9))), (13, (.inl (po_push 0 14))), (14, (.inl (po_istore 3 15))), (15, (.inl (po_aload 0 16))), (16, (.inl (po_get 5 9 19))), (19, (.inl (po_push 3 20))), (20, (.inl (po_if2 (fun x y => !decide (x = y)) 52 23))), (52, (.inl (po_aload 0 53))), (53, (.inl (po_get 5 9 56))), (56, (.inl (po_push 2 57))), (57, (.inl (po_if2 (fun x y => decide (x = y)) 65 60))), (60, (.inl (po_aload 0 61))), (61, (.inl (po_cv 71 0 5 1 64))), (64, (.inr (re_z)))] := pr_aS_c (pr_eI (os_iload_n (q := 2) dX5_readType_0)) (pr_aS_c (pr_eI (os_if_ne dX5_readType_1 (by decide))) (pr_aS_c (pr_eI (os_iload_n (q := 1) dX5_readType_4)) (pr_aS_c (pr_eI (os_iconst dX5_readType_5 (by decide +kernel))) (pr_aS_c (pr_eI (os_icmp_le dX5_readType_6 (by decide))) (pr_aS_c (pr_eI (os_iconst dX5_readType_13 (by decide +kernel))) (pr_aS_c (pr_eI (os_istore_n (q := 3) dX5_readType_14 (by decide))) (pr_aS_c (pr_eI (os_aload_n (q := 0) dX5_readType_15)) (pr_aS_c (pr_eI (os_get (kf := 9) dX5_readType_16 cf_5 (by decide) wd_377)) (pr_aS_c (pr_eI (os_iconst dX5_readType_19 (by decide +kernel))) (pr_aS_c (pr_eI (os_icmp_ne dX5_readType_20 (by decide))) (pr_aS_c (pr_eI (os_aload_n (q := 0) dX5_readType_52)) (pr_aS_c (pr_eI (os_get (kf := 9) dX5_readType_53 cf_5 (by decide) wd_377)) (pr_aS_c (pr_eI (os_iconst dX5_readType_56 (by decide +kernel))) (pr_aS_c (pr_eI (os_icmp_eq dX5_readType_57 (by decide))) (pr_aS_c (pr_eI (os_aload_n (q := 0) dX5_readType_60)) (pr_aS_c (pr_eI (os_cv dX5_readType_61 (k := 71) rfl rfl cal_71 wd_390 wd_392 wd_391 rfl)) (pr_aS_c (pr_eR (rs_z dX5_readType_64 rfl)) trivial)))))))))))))))))
theorem dX5_failToken_0 : decode cX5_failToken 0 = .ok (.aload_n 0, 1) := by decide +kernel
theorem dX5_failToken_1 : decode cX5_failToken 1 = .ok (.aload_n 0, 1) := by decide +kernel
theorem dX5_failToken_2 : decode cX5_failToken 2 = .ok (.getfield 64, 3) := by decide +kernel
theorem dX5_failToken_5 : decode cX5_failToken 5 = .ok (.iconst 1, 1) := by decide +kernel
theorem dX5_failToken_6 : decode cX5_failToken 6 = .ok (.if_icmp .ne 7, 3) := by decide +kernel
theorem dX5_failToken_13 : decode cX5_failToken 13 = .ok (.iconst 2, 1) := by decide +kernel
theorem dX5_failToken_14 : decode cX5_failToken 14 = .ok (.aload_n 0, 1) := by decide +kernel
theorem dX5_failToken_15 : decode cX5_failToken 15 = .ok (.getfield 100, 3) := by decide +kernel
theorem dX5_failToken_18 : decode cX5_failToken 18 = .ok (.invokevirtual 107, 3) := by decide +kernel
theorem dX5_failToken_21 : decode cX5_failToken 21 = .ok (.ireturn, 1) := by decide +kernel
/-- InferResolve$Reader.failToken()Z -/
noncomputable def qc_71 : pr_Co := [(0, (.inl (po_aload 0 1))), (1, (.inl (po_aload 0 2))), (2, (.inl (po_get 5 9 5))), (5, (.inl (po_push 1 6))), (6, (.inl (po_if2 (fun x y => !decide (x = y)) 13 9))), (13, (.inl (po_push 2 14))), (14, (.inl (po_aload 0 15))), (15, (.inl (po_get 5 10 18))), (18, (.inl (po_cv 72 2 5 3 21))), (21, (.inr (re_z)))]
set_option maxRecDepth 100000 in
set_option maxHeartbeats 4000000 in
theorem qs_71 : pr_aS pr_ms m_71 [(0, (.inl (po_aload 0 1))), (1, (.inl (po_aload 0 2))), (2, (.inl (po_get 5 9 5))), (5, (.inl (po_push 1 6))), (6, (.inl (po_if2 (fun x y => !decide (x = y)) 13 9))), (13, (.inl (po_push 2 14))), (14, (.inl (po_aload 0 15))), (15, (.inl (po_get 5 10 18))), (18, (.inl (po_cv 72 2 5 3 21))), (21, (.inr (re_z)))] := pr_aS_c (pr_eI (os_aload_n (q := 0) dX5_failToken_0)) (pr_aS_c (pr_eI (os_aload_n (q := 0) dX5_failToken_1)) (pr_aS_c (pr_eI (os_get (kf := 9) dX5_failToken_2 cf_5 (by decide) wd_377)) (pr_aS_c (pr_eI (os_iconst dX5_failToken_5 (by decide +kernel))) (pr_aS_c (pr_eI (os_icmp_ne dX5_failToken_6 (by decide))) (pr_aS_c (pr_eI (os_iconst dX5_failToken_13 (by decide +kernel))) (pr_aS_c (pr_eI (os_aload_n (q := 0) dX5_failToken_14)) (pr_aS_c (pr_eI (os_get (kf := 10) dX5_failToken_15 cf_5 (by decide) wd_393)) (pr_aS_c (pr_eI (os_cv dX5_failToken_18 (k := 72) rfl rfl cal_72 wd_394 wd_396 wd_395 rfl)) (pr_aS_c (pr_eR (rs_z dX5_failToken_21 rfl)) trivial)))))))))
