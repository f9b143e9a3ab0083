/-! code tables (laid by a program) -/
theorem dX5_fail_0 : decode cX5_fail 0 = .ok (.aload_n 0, 1) := by decide +kernel
theorem dX5_fail_1 : decode cX5_fail 1 = .ok (.iload_n 1, 1) := by decide +kernel
theorem dX5_fail_2 : decode cX5_fail 2 = .ok (.putfield 37, 3) := by decide +kernel
theorem dX5_fail_5 : decode cX5_fail 5 = .ok (.aload_n 0, 1) := by decide +kernel
theorem dX5_fail_6 : decode cX5_fail 6 = .ok (.iload_n 2, 1) := by decide +kernel
theorem dX5_fail_7 : decode cX5_fail 7 = .ok (.putfield 41, 3) := by decide +kernel
theorem dX5_fail_10 : decode cX5_fail 10 = .ok (.iconst 0, 1) := by decide +kernel
theorem dX5_fail_11 : decode cX5_fail 11 = .ok (.ireturn, 1) := by decide +kernel
/-- InferResolve$Reader.fail(II)Z -/
noncomputable def qc_72 : pr_Co := [(0, (.inl (po_aload 0 1))), (1, (.inl (po_iload 1 2))), (2, (.inl (po_puti 5 13 5))), (5, (.inl (po_aload 0 6))), (6, (.inl (po_iload 2 7))), (7, (.inl (po_puti 5 14 10))), (10, (.inl (po_push 0 11))), (11, (.inr (re_z)))]
set_option maxRecDepth 100000 in
set_option maxHeartbeats 4000000 in
theorem qs_72 : pr_aS pr_ms m_72 [(0, (.inl (po_aload 0 1))), (1, (.inl (po_iload 1 2))), (2, (.inl (po_puti 5 13 5))), (5, (.inl (po_aload 0 6))), (6, (.inl (po_iload 2 7))), (7, (.inl (po_puti 5 14 10))), (10, (.inl (po_push 0 11))), (11, (.inr (re_z)))] := pr_aS_c (pr_eI (os_aload_n (q := 0) dX5_fail_0)) (pr_aS_c (pr_eI (os_iload_n (q := 1) dX5_fail_1)) (pr_aS_c (pr_eI (os_puti (kf := 13) dX5_fail_2 cf_5 (by decide) wd_368 rfl rfl)) (pr_aS_c (pr_eI (os_aload_n (q := 0) dX5_fail_5)) (pr_aS_c (pr_eI (os_iload_n (q := 2) dX5_fail_6)) (pr_aS_c (pr_eI (os_puti (kf := 14) dX5_fail_7 cf_5 (by decide) wd_369 rfl rfl)) (pr_aS_c (pr_eI (os_iconst dX5_fail_10 (by decide +kernel))) (pr_aS_c (pr_eR (rs_z dX5_fail_11 rfl)) trivial)))))))
theorem dX5_advance_0 : decode cX5_advance 0 = .ok (.aload_n 0, 1) := by decide +kernel
theorem dX5_advance_1 : decode cX5_advance 1 = .ok (.getfield 97, 3) := by decide +kernel
theorem dX5_advance_4 : decode cX5_advance 4 = .ok (.istore_n 1, 1) := by decide +kernel
theorem dX5_advance_5 : decode cX5_advance 5 = .ok (.iload_n 1, 1) := by decide +kernel
theorem dX5_advance_6 : decode cX5_advance 6 = .ok (.aload_n 0, 1) := by decide +kernel
theorem dX5_advance_7 : decode cX5_advance 7 = .ok (.getfield 30, 3) := by decide +kernel
theorem dX5_advance_10 : decode cX5_advance 10 = .ok (.invokevirtual 71, 3) := by decide +kernel
theorem dX5_advance_13 : decode cX5_advance 13 = .ok (.if_icmp .ge 22, 3) := by decide +kernel
theorem dX5_advance_35 : decode cX5_advance 35 = .ok (.aload_n 0, 1) := by decide +kernel
theorem dX5_advance_36 : decode cX5_advance 36 = .ok (.iload_n 1, 1) := by decide +kernel
theorem dX5_advance_37 : decode cX5_advance 37 = .ok (.putfield 100, 3) := by decide +kernel
theorem dX5_advance_40 : decode cX5_advance 40 = .ok (.aload_n 0, 1) := by decide +kernel
theorem dX5_advance_41 : decode cX5_advance 41 = .ok (.getfield 30, 3) := by decide +kernel
theorem dX5_advance_44 : decode cX5_advance 44 = .ok (.iload_n 1, 1) := by decide +kernel
theorem dX5_advance_45 : decode cX5_advance 45 = .ok (.invokevirtual 47, 3) := by decide +kernel
theorem dX5_advance_48 : decode cX5_advance 48 = .ok (.istore_n 2, 1) := by decide +kernel
theorem dX5_advance_49 : decode cX5_advance 49 = .ok (.aload_n 0, 1) := by decide +kernel
theorem dX5_advance_50 : decode cX5_advance 50 = .ok (.iload_n 1, 1) := by decide +kernel
theorem dX5_advance_51 : decode cX5_advance 51 = .ok (.aload_n 0, 1) := by decide +kernel
theorem dX5_advance_52 : decode cX5_advance 52 = .ok (.getfield 30, 3) := by decide +kernel
theorem dX5_advance_55 : decode cX5_advance 55 = .ok (.invokevirtual 71, 3) := by decide +kernel
theorem dX5_advance_58 : decode cX5_advance 58 = .ok (.if_icmp .ge 9, 3) := by decide +kernel
theorem dX5_advance_67 : decode cX5_advance 67 = .ok (.iload_n 1, 1) := by decide +kernel
theorem dX5_advance_68 : decode cX5_advance 68 = .ok (.putfield 97, 3) := by decide +kernel
theorem dX5_advance_71 : decode cX5_advance 71 = .ok (.iload_n 1, 1) := by decide +kernel
theorem dX5_advance_72 : decode cX5_advance 72 = .ok (.aload_n 0, 1) := by decide +kernel
theorem dX5_advance_73 : decode cX5_advance 73 = .ok (.getfield 30, 3) := by decide +kernel
theorem dX5_advance_76 : decode cX5_advance 76 = .ok (.invokevirtual 71, 3) := by decide +kernel
theorem dX5_advance_79 : decode cX5_advance 79 = .ok (.if_icmp .lt 11, 3) := by decide +kernel
theorem dX5_advance_82 : decode cX5_advance 82 = .ok (.aload_n 0, 1) := by decide +kernel
theorem dX5_advance_83 : decode cX5_advance 83 = .ok (.iconst 0, 1) := by decide +kernel
theorem dX5_advance_84 : decode cX5_advance 84 = .ok (.putfield 64, 3) := by decide +kernel
theorem dX5_advance_87 : decode cX5_advance 87 = .ok (.goto 141, 3) := by decide +kernel
theorem dX5_advance_228 : decode cX5_advance 228 = .ok (.return_, 1) := by decide +kernel
/-- InferResolve$Reader.advance()V -/
noncomputable def qc_73 : pr_Co := [(0, (.inl (po_aload 0 1))), (1, (.inl (po_get 5 11 4))), (4, (.inl (po_istore 1 5))), (5, (.inl (po_iload 1 6))), (6, (.inl (po_aload 0 7))), (7, (.inl (po_get 5 0 10))), (10, (.inl (po_cv 79 0 7 1 13))), (13, (.inl (po_if2 (fun x y => decide (y ≤ x)) 35 16))), (35, (.inl (po_aload 0 36))), (36, (.inl (po_iload 1 37))), (37, (.inl (po_puti 5 10 40))), (40, (.inl (po_aload 0 41))), (41, (.inl (po_get 5 0 44))), (44, (.inl (po_iload 1 45))), (45, (.inl (po_cv 80 1 7 2 48))), (48, (.inl (po_istore 2 49))), (49, (.inl (po_aload 0 50))), (50, (.inl (po_iload 1 51))), (51, (.inl (po_aload 0 52))), (52, (.inl (po_get 5 0 55))), (55, (.inl (po_cv 79 0 7 1 58))), (58, (.inl (po_if2 (fun x y => decide (y ≤ x)) 67 61))), (67, (.inl (po_iload 1 68))), (68, (.inl (po_puti 5 11 71))), (71, (.inl (po_iload 1 72))), (72, (.inl (po_aload 0 73))), (73, (.inl (po_get 5 0 76))), (76, (.inl (po_cv 79 0 7 1 79))), (79, (.inl (po_if2 (fun x y => decide (x < y)) 90 82))), (82, (.inl (po_aload 0 83))), (83, (.inl (po_push 0 84))), (84, (.inl (po_puti 5 9 87))), (87, (.inl (po_goto 228))), (228, (.inr (re_v)))]
set_option maxRecDepth 100000 in
set_option maxHeartbeats 4000000 in
theorem qs_73 : pr_aS pr_ms m_73 [(0, (.inl (po_aload 0 1))), (1, (.inl (po_get 5 11 4))), (4, (.inl (po_istore 1 5))), (5, (.inl (po_iload 1 6))), (6, (.inl (po_aload 0 7))), (7, (.inl (po_get 5 0 10))), (10, (.inl (po_cv 79 0 7 1 13))), (13, (.inl (po_if2 (fun x y => decide (y ≤ x)) 35 16))), (35, (.inl (po_aload 0 36))), (36, (.inl (po_iload 1 37))), (37, (.inl (po_puti 5 10 40))), (40, (.inl (po_aload 0 41))), (41, (.inl (po_get 5 0 44))), (44, (.inl (po_iload 1 45))), (45, (.inl (po_cv 80 1 7 2 48))), (48, (.inl (po_istore 2 49))), (49, (.inl (po_aload 0 50))), (50, (.inl (po_iload 1 51))), (51, (.inl (po_aload 0 52))), (52, (.inl (po_get 5 0 55))), (55, (.inl (po_cv 79 0 7 1 58))), (58, (.inl (po_if2 (fun x y => decide (y ≤ x)) 67 61))), (67, (.inl (po_iload 1 68))), (68, (.inl (po_puti 5 11 71))), (71, (.inl (po_iload 1 72))), (72, (.inl (po_aload 0 73))), (73, (.inl (po_get 5 0 76))), (76, (.inl (po_cv 79 0 7 1 79))), (79, (.inl (po_if2 (fun x y => decide (x < y)) 90 82))), (82, (.inl (po_aload 0 83))), (83, (.inl (po_push 0 84))), (84, (.inl (po_puti 5 9 87))), (87, (.inl (po_goto 228))), (228, (.inr (re_v)))] := pr_aS_c (pr_eI (os_aload_n (q := 0) dX5_advance_0)) (pr_aS_c (pr_eI (os_get (kf := 11) dX5_advance_1 cf_5 (by decide) wd_386)) (pr_aS_c (pr_eI (os_istore_n (q := 1) dX5_advance_4 (by decide))) (pr_aS_c (pr_eI (os_iload_n (q := 1) dX5_advance_5)) (pr_aS_c (pr_eI (os_aload_n (q := 0) dX5_advance_6)) (pr_aS_c (pr_eI (os_get (kf := 0) dX5_advance_7 cf_5 (by decide) wd_366)) (pr_aS_c (pr_eI (os_cv dX5_advance_10 (k := 79) rfl rfl cal_79 wd_378 wd_102 wd_101 rfl)) (pr_aS_c (pr_eI (os_icmp_ge dX5_advance_13 (by decide))) (pr_aS_c (pr_eI (os_aload_n (q := 0) dX5_advance_35)) (pr_aS_c (pr_eI (os_iload_n (q := 1) dX5_advance_36)) (pr_aS_c (pr_eI (os_puti (kf := 10) dX5_advance_37 cf_5 (by decide) wd_393 rfl rfl)) (pr_aS_c (pr_eI (os_aload_n (q := 0) dX5_advance_40)) (pr_aS_c (pr_eI (os_get (kf := 0) dX5_advance_41 cf_5 (by decide) wd_366)) (pr_aS_c (pr_eI (os_iload_n (q := 1) dX5_advance_44)) (pr_aS_c (pr_eI (os_cv dX5_advance_45 (k := 80) rfl rfl cal_80 wd_397 wd_399 wd_398 rfl)) (pr_aS_c (pr_eI (os_istore_n (q := 2) dX5_advance_48 (by decide))) (pr_aS_c (pr_eI (os_aload_n (q := 0) dX5_advance_49)) (pr_aS_c (pr_eI (os_iload_n (q := 1) dX5_advance_50)) (pr_aS_c (pr_eI (os_aload_n (q := 0) dX5_advance_51)) (pr_aS_c (pr_eI (os_get (kf := 0) dX5_advance_52 cf_5 (by decide) wd_366)) (pr_aS_c (pr_eI (os_cv dX5_advance_55 (k := 79) rfl rfl cal_79 wd_378 wd_102 wd_101 rfl)) (pr_aS_c (pr_eI (os_icmp_ge dX5_advance_58 (by decide))) (pr_aS_c (pr_eI (os_iload_n (q := 1) dX5_advance_67)) (pr_aS_c (pr_eI (os_puti (kf := 11) dX5_advance_68 cf_5 (by decide) wd_386 rfl rfl)) (pr_aS_c (pr_eI (os_iload_n (q := 1) dX5_advance_71)) (pr_aS_c (pr_eI (os_aload_n (q := 0) dX5_advance_72)) (pr_aS_c (pr_eI (os_get (kf := 0) dX5_advance_73 cf_5 (by decide) wd_366)) (pr_aS_c (pr_eI (os_cv dX5_advance_76 (k := 79) rfl rfl cal_79 wd_378 wd_102 wd_101 rfl)) (pr_aS_c (pr_eI (os_icmp_lt dX5_advance_79 (by decide))) (pr_aS_c (pr_eI (os_aload_n (q := 0) dX5_advance_82)) (pr_aS_c (pr_eI (os_iconst dX5_advance_83 (by decide +kernel))) (pr_aS_c (pr_eI (os_puti (kf := 9) dX5_advance_84 cf_5 (by decide) wd_377 rfl rfl)) (pr_aS_c (pr_eI (os_goto dX5_advance_87 (by decide))) (pr_aS_c (pr_eR (rs_v dX5_advance_228 rfl)) trivial)))))))))))))))))))))))))))))))))
theorem dX6_init_0 : decode cX6_init 0 = .ok (.aload_n 0, 1) := by decide +kernel
theorem dX6_init_1 : decode cX6_init 1 = .ok (.invokespecial 3, 3) := by decide +kernel
theorem dX6_init_4 : decode cX6_init 4 = .ok (.aload_n 0, 1) := by decide +kernel
theorem dX6_init_5 : decode cX6_init 5 = .ok (.new 9, 3) := by decide +kernel
theorem dX6_init_8 : decode cX6_init 8 = .ok (.dup, 1) := by decide +kernel
theorem dX6_init_9 : decode cX6_init 9 = .ok (.bipush 48, 2) := by decide +kernel
theorem dX6_init_11 : decode cX6_init 11 = .ok (.invokespecial 11, 3) := by decide +kernel
theorem dX6_init_14 : decode cX6_init 14 = .ok (.putfield 14, 3) := by decide +kernel
theorem dX6_init_17 : decode cX6_init 17 = .ok (.aload_n 0, 1) := by decide +kernel
theorem dX6_init_18 : decode cX6_init 18 = .ok (.aload_n 1, 1) := by decide +kernel
theorem dX6_init_19 : decode cX6_init 19 = .ok (.putfield 20, 3) := by decide +kernel
theorem dX6_init_22 : decode cX6_init 22 = .ok (.aload_n 0, 1) := by decide +kernel
theorem dX6_init_23 : decode cX6_init 23 = .ok (.aload_n 2, 1) := by decide +kernel
theorem dX6_init_24 : decode cX6_init 24 = .ok (.putfield 24, 3) := by decide +kernel
theorem dX6_init_27 : decode cX6_init 27 = .ok (.return_, 1) := by decide +kernel
/-- InferResolve$Reducer.<init>(LInferResolve$Kinds;LInferResolve$Bounds;)V -/
noncomputable def qc_74 : pr_Co := [(0, (.inl (po_aload 0 1))), (1, (.inl (po_oi 4))), (4, (.inl (po_aload 0 5))), (5, (.inl (po_new 7 [.null, .int 0] 8))), (8, (.inl (po_dup 9))), (9, (.inl (po_push 48 11))), (11, (.inl (po_ci 78 1 2 14))), (14, (.inl (po_putr 6 2 17))), (17, (.inl (po_aload 0 18))), (18, (.inl (po_aload 1 19))), (19, (.inl (po_putr 6 0 22))), (22, (.inl (po_aload 0 23))), (23, (.inl (po_aload 2 24))), (24, (.inl (po_putr 6 1 27))), (27, (.inr (re_v)))]
set_option maxRecDepth 100000 in
set_option maxHeartbeats 4000000 in
theorem qs_74 : pr_aS pr_ms m_74 [(0, (.inl (po_aload 0 1))), (1, (.inl (po_oi 4))), (4, (.inl (po_aload 0 5))), (5, (.inl (po_new 7 [.null, .int 0] 8))), (8, (.inl (po_dup 9))), (9, (.inl (po_push 48 11))), (11, (.inl (po_ci 78 1 2 14))), (14, (.inl (po_putr 6 2 17))), (17, (.inl (po_aload 0 18))), (18, (.inl (po_aload 1 19))), (19, (.inl (po_putr 6 0 22))), (22, (.inl (po_aload 0 23))), (23, (.inl (po_aload 2 24))), (24, (.inl (po_putr 6 1 27))), (27, (.inr (re_v)))] := pr_aS_c (pr_eI (os_aload_n (q := 0) dX6_init_0)) (pr_aS_c (pr_eI (os_oi dX6_init_1 wd_400 wd_1 wd_2)) (pr_aS_c (pr_eI (os_aload_n (q := 0) dX6_init_4)) (pr_aS_c (pr_eI (os_new dX6_init_5 cf_7 wd_401 wd_4 wd_5 (by decide +kernel))) (pr_aS_c (pr_eI (os_dup dX6_init_8)) (pr_aS_c (pr_eI (os_bipush dX6_init_9 (by decide +kernel))) (pr_aS_c (pr_eI (os_ci dX6_init_11 (k := 78) rfl rfl cal_78 wd_402 wd_7 rfl rfl)) (pr_aS_c (pr_eI (os_putrF (kf := 2) dX6_init_14 cf_6 (by decide) wd_403 rfl rfl rfl (Or.inl ⟨_, rfl⟩))) (pr_aS_c (pr_eI (os_aload_n (q := 0) dX6_init_17)) (pr_aS_c (pr_eI (os_aload_n (q := 1) dX6_init_18)) (pr_aS_c (pr_eI (os_putrF (kf := 0) dX6_init_19 cf_6 (by decide) wd_404 rfl rfl rfl (Or.inl ⟨_, rfl⟩))) (pr_aS_c (pr_eI (os_aload_n (q := 0) dX6_init_22)) (pr_aS_c (pr_eI (os_aload_n (q := 2) dX6_init_23)) (pr_aS_c (pr_eI (os_putrF (kf := 1) dX6_init_24 cf_6 (by decide) wd_405 rfl rfl rfl (Or.inl ⟨_, rfl⟩))) (pr_aS_c (pr_eR (rs_v dX6_init_27 rfl)) trivial))))))))))))))
theorem dX6_start_0 : decode cX6_start 0 = .ok (.aload_n 0, 1) := by decide +kernel
theorem dX6_start_1 : decode cX6_start 1 = .ok (.iconst 0, 1) := by decide +kernel
theorem dX6_start_2 : decode cX6_start 2 = .ok (.putfield 28, 3) := by decide +kernel
theorem dX6_start_5 : decode cX6_start 5 = .ok (.aload_n 0, 1) := by decide +kernel
theorem dX6_start_6 : decode cX6_start 6 = .ok (.iload_n 1, 1) := by decide +kernel
theorem dX6_start_7 : decode cX6_start 7 = .ok (.putfield 32, 3) := by decide +kernel
theorem dX6_start_10 : decode cX6_start 10 = .ok (.return_, 1) := by decide +kernel
/-- InferResolve$Reducer.start(Z)V -/
noncomputable def qc_75 : pr_Co := [(0, (.inl (po_aload 0 1))), (1, (.inl (po_push 0 2))), (2, (.inl (po_putz 6 3 5))), (5, (.inl (po_aload 0 6))), (6, (.inl (po_iload 1 7))), (7, (.inl (po_putz 6 4 10))), (10, (.inr (re_v)))]
set_option maxRecDepth 100000 in
set_option maxHeartbeats 4000000 in
theorem qs_75 : pr_aS pr_ms m_75 [(0, (.inl (po_aload 0 1))), (1, (.inl (po_push 0 2))), (2, (.inl (po_putz 6 3 5))), (5, (.inl (po_aload 0 6))), (6, (.inl (po_iload 1 7))), (7, (.inl (po_putz 6 4 10))), (10, (.inr (re_v)))] := pr_aS_c (pr_eI (os_aload_n (q := 0) dX6_start_0)) (pr_aS_c (pr_eI (os_iconst dX6_start_1 (by decide +kernel))) (pr_aS_c (pr_eI (os_putz (kf := 3) dX6_start_2 cf_6 (by decide) wd_406 rfl rfl)) (pr_aS_c (pr_eI (os_aload_n (q := 0) dX6_start_5)) (pr_aS_c (pr_eI (os_iload_n (q := 1) dX6_start_6)) (pr_aS_c (pr_eI (os_putz (kf := 4) dX6_start_7 cf_6 (by decide) wd_407 rfl rfl)) (pr_aS_c (pr_eR (rs_v dX6_start_10 rfl)) trivial))))))
theorem dX6_isFalse_0 : decode cX6_isFalse 0 = .ok (.aload_n 0, 1) := by decide +kernel
theorem dX6_isFalse_1 : decode cX6_isFalse 1 = .ok (.getfield 28, 3) := by decide +kernel
theorem dX6_isFalse_4 : decode cX6_isFalse 4 = .ok (.ireturn, 1) := by decide +kernel
/-- InferResolve$Reducer.isFalse()Z -/
noncomputable def qc_76 : pr_Co := [(0, (.inl (po_aload 0 1))), (1, (.inl (po_get 6 3 4))), (4, (.inr (re_z)))]
set_option maxRecDepth 100000 in
set_option maxHeartbeats 4000000 in
theorem qs_76 : pr_aS pr_ms m_76 [(0, (.inl (po_aload 0 1))), (1, (.inl (po_get 6 3 4))), (4, (.inr (re_z)))] := pr_aS_c (pr_eI (os_aload_n (q := 0) dX6_isFalse_0)) (pr_aS_c (pr_eI (os_get (kf := 3) dX6_isFalse_1 cf_6 (by decide) wd_406)) (pr_aS_c (pr_eR (rs_z dX6_isFalse_4 rfl)) trivial))
theorem dX6_isLong_0 : decode cX6_isLong 0 = .ok (.aload_n 0, 1) := by decide +kernel
theorem dX6_isLong_1 : decode cX6_isLong 1 = .ok (.getfield 32, 3) := by decide +kernel
theorem dX6_isLong_4 : decode cX6_isLong 4 = .ok (.ireturn, 1) := by decide +kernel
/-- InferResolve$Reducer.isLong()Z -/
noncomputable def qc_77 : pr_Co := [(0, (.inl (po_aload 0 1))), (1, (.inl (po_get 6 4 4))), (4, (.inr (re_z)))]
set_option maxRecDepth 100000 in
set_option maxHeartbeats 4000000 in
theorem qs_77 : pr_aS pr_ms m_77 [(0, (.inl (po_aload 0 1))), (1, (.inl (po_get 6 4 4))), (4, (.inr (re_z)))] := pr_aS_c (pr_eI (os_aload_n (q := 0) dX6_isLong_0)) (pr_aS_c (pr_eI (os_get (kf := 4) dX6_isLong_1 cf_6 (by decide) wd_407)) (pr_aS_c (pr_eR (rs_z dX6_isLong_4 rfl)) trivial))
theorem dX7_init_0 : decode cX7_init 0 = .ok (.aload_n 0, 1) := by decide +kernel
theorem dX7_init_1 : decode cX7_init 1 = .ok (.invokespecial 3, 3) := by decide +kernel
theorem dX7_init_4 : decode cX7_init 4 = .ok (.aload_n 0, 1) := by decide +kernel
theorem dX7_init_5 : decode cX7_init 5 = .ok (.iload_n 1, 1) := by decide +kernel
theorem dX7_init_6 : decode cX7_init 6 = .ok (.iconst 1, 1) := by decide +kernel
theorem dX7_init_7 : decode cX7_init 7 = .ok (.if_icmp .ge 7, 3) := by decide +kernel
theorem dX7_init_14 : decode cX7_init 14 = .ok (.iload_n 1, 1) := by decide +kernel
theorem dX7_init_15 : decode cX7_init 15 = .ok (.newarray .int, 2) := by decide +kernel
theorem dX7_init_17 : decode cX7_init 17 = .ok (.putfield 9, 3) := by decide +kernel
theorem dX7_init_20 : decode cX7_init 20 = .ok (.return_, 1) := by decide +kernel
/-- InferResolve$Row.<init>(I)V -/
noncomputable def qc_78 : pr_Co := [(0, (.inl (po_aload 0 1))), (1, (.inl (po_oi 4))), (4, (.inl (po_aload 0 5))), (5, (.inl (po_iload 1 6))), (6, (.inl (po_push 1 7))), (7, (.inl (po_if2 (fun x y => decide (y ≤ x)) 14 10))), (14, (.inl (po_iload 1 15))), (15, (.inl (po_newI 17))), (17, (.inl (po_putr 7 0 20))), (20, (.inr (re_v)))]
set_option maxRecDepth 100000 in
set_option maxHeartbeats 4000000 in
theorem qs_78 : pr_aS pr_ms m_78 [(0, (.inl (po_aload 0 1))), (1, (.inl (po_oi 4))), (4, (.inl (po_aload 0 5))), (5, (.inl (po_iload 1 6))), (6, (.inl (po_push 1 7))), (7, (.inl (po_if2 (fun x y => decide (y ≤ x)) 14 10))), (14, (.inl (po_iload 1 15))), (15, (.inl (po_newI 17))), (17, (.inl (po_putr 7 0 20))), (20, (.inr (re_v)))] := pr_aS_c (pr_eI (os_aload_n (q := 0) dX7_init_0)) (pr_aS_c (pr_eI (os_oi dX7_init_1 wd_408 wd_1 wd_2)) (pr_aS_c (pr_eI (os_aload_n (q := 0) dX7_init_4)) (pr_aS_c (pr_eI (os_iload_n (q := 1) dX7_init_5)) (pr_aS_c (pr_eI (os_iconst dX7_init_6 (by decide +kernel))) (pr_aS_c (pr_eI (os_icmp_ge dX7_init_7 (by decide))) (pr_aS_c (pr_eI (os_iload_n (q := 1) dX7_init_14)) (pr_aS_c (pr_eI (os_newI dX7_init_15 wd_138)) (pr_aS_c (pr_eI (os_putr (kf := 0) dX7_init_17 cf_7 (by decide) wd_409 rfl (Or.inr ⟨_, rfl⟩))) (pr_aS_c (pr_eR (rs_v dX7_init_20 rfl)) trivial)))))))))
theorem dX7_size_0 : decode cX7_size 0 = .ok (.aload_n 0, 1) := by decide +kernel
theorem dX7_size_1 : decode cX7_size 1 = .ok (.getfield 15, 3) := by decide +kernel
theorem dX7_size_4 : decode cX7_size 4 = .ok (.ireturn, 1) := by decide +kernel
/-- InferResolve$Row.size()I -/
noncomputable def qc_79 : pr_Co := [(0, (.inl (po_aload 0 1))), (1, (.inl (po_get 7 1 4))), (4, (.inr (re_i)))]
set_option maxRecDepth 100000 in
set_option maxHeartbeats 4000000 in
theorem qs_79 : pr_aS pr_ms m_79 [(0, (.inl (po_aload 0 1))), (1, (.inl (po_get 7 1 4))), (4, (.inr (re_i)))] := pr_aS_c (pr_eI (os_aload_n (q := 0) dX7_size_0)) (pr_aS_c (pr_eI (os_get (kf := 1) dX7_size_1 cf_7 (by decide) wd_410)) (pr_aS_c (pr_eR (rs_i dX7_size_4 rfl)) trivial))
theorem dX7_get_0 : decode cX7_get 0 = .ok (.iload_n 1, 1) := by decide +kernel
theorem dX7_get_1 : decode cX7_get 1 = .ok (.ifCond .lt 20, 3) := by decide +kernel
theorem dX7_get_4 : decode cX7_get 4 = .ok (.iload_n 1, 1) := by decide +kernel
theorem dX7_get_5 : decode cX7_get 5 = .ok (.aload_n 0, 1) := by decide +kernel
theorem dX7_get_6 : decode cX7_get 6 = .ok (.getfield 15, 3) := by decide +kernel
theorem dX7_get_9 : decode cX7_get 9 = .ok (.if_icmp .ge 12, 3) := by decide +kernel
theorem dX7_get_21 : decode cX7_get 21 = .ok (.iconst (-1), 1) := by decide +kernel
theorem dX7_get_22 : decode cX7_get 22 = .ok (.ireturn, 1) := by decide +kernel
/-- InferResolve$Row.get(I)I -/
noncomputable def qc_80 : pr_Co := [(0, (.inl (po_iload 1 1))), (1, (.inl (po_if1 (fun x => decide (x < 0)) 21 4))), (4, (.inl (po_iload 1 5))), (5, (.inl (po_aload 0 6))), (6, (.inl (po_get 7 1 9))), (9, (.inl (po_if2 (fun x y => decide (y ≤ x)) 21 12))), (21, (.inl (po_push (-1) 22))), (22, (.inr (re_i)))]
set_option maxRecDepth 100000 in
set_option maxHeartbeats 4000000 in
theorem qs_80 : pr_aS pr_ms m_80 [(0, (.inl (po_iload 1 1))), (1, (.inl (po_if1 (fun x => decide (x < 0)) 21 4))), (4, (.inl (po_iload 1 5))), (5, (.inl (po_aload 0 6))), (6, (.inl (po_get 7 1 9))), (9, (.inl (po_if2 (fun x y => decide (y ≤ x)) 21 12))), (21, (.inl (po_push (-1) 22))), (22, (.inr (re_i)))] := pr_aS_c (pr_eI (os_iload_n (q := 1) dX7_get_0)) (pr_aS_c (pr_eI (os_if_lt dX7_get_1 (by decide))) (pr_aS_c (pr_eI (os_iload_n (q := 1) dX7_get_4)) (pr_aS_c (pr_eI (os_aload_n (q := 0) dX7_get_5)) (pr_aS_c (pr_eI (os_get (kf := 1) dX7_get_6 cf_7 (by decide) wd_410)) (pr_aS_c (pr_eI (os_icmp_ge dX7_get_9 (by decide))) (pr_aS_c (pr_eI (os_iconst dX7_get_21 (by decide +kernel))) (pr_aS_c (pr_eR (rs_i dX7_get_22 rfl)) trivial)))))))
theorem dX7_put_0 : decode cX7_put 0 = .ok (.aload_n 0, 1) := by decide +kernel
theorem dX7_put_1 : decode cX7_put 1 = .ok (.getfield 15, 3) := by decide +kernel
theorem dX7_put_4 : decode cX7_put 4 = .ok (.aload_n 0, 1) := by decide +kernel
theorem dX7_put_5 : decode cX7_put 5 = .ok (.getfield 9, 3) := by decide +kernel
theorem dX7_put_8 : decode cX7_put 8 = .ok (.arraylength, 1) := by decide +kernel
theorem dX7_put_9 : decode cX7_put 9 = .ok (.if_icmp .lt 22, 3) := by decide +kernel
theorem dX7_put_31 : decode cX7_put 31 = .ok (.aload_n 0, 1) := by decide +kernel
theorem dX7_put_32 : decode cX7_put 32 = .ok (.getfield 9, 3) := by decide +kernel
theorem dX7_put_35 : decode cX7_put 35 = .ok (.aload_n 0, 1) := by decide +kernel
theorem dX7_put_36 : decode cX7_put 36 = .ok (.getfield 15, 3) := by decide +kernel
theorem dX7_put_39 : decode cX7_put 39 = .ok (.iload_n 1, 1) := by decide +kernel
theorem dX7_put_40 : decode cX7_put 40 = .ok (.iastore, 1) := by decide +kernel
theorem dX7_put_41 : decode cX7_put 41 = .ok (.aload_n 0, 1) := by decide +kernel
theorem dX7_put_42 : decode cX7_put 42 = .ok (.dup, 1) := by decide +kernel
theorem dX7_put_43 : decode cX7_put 43 = .ok (.getfield 15, 3) := by decide +kernel
theorem dX7_put_46 : decode cX7_put 46 = .ok (.iconst 1, 1) := by decide +kernel
theorem dX7_put_47 : decode cX7_put 47 = .ok (.iadd, 1) := by decide +kernel
theorem dX7_put_48 : decode cX7_put 48 = .ok (.putfield 15, 3) := by decide +kernel
theorem dX7_put_51 : decode cX7_put 51 = .ok (.return_, 1) := by decide +kernel
/-- InferResolve$Row.put(I)V -/
noncomputable def qc_81 : pr_Co := [(0, (.inl (po_aload 0 1))), (1, (.inl (po_get 7 1 4))), (4, (.inl (po_aload 0 5))), (5, (.inl (po_get 7 0 8))), (8, (.inl (po_alen 9))), (9, (.inl (po_if2 (fun x y => decide (x < y)) 31 12))), (31, (.inl (po_aload 0 32))), (32, (.inl (po_get 7 0 35))), (35, (.inl (po_aload 0 36))), (36, (.inl (po_get 7 1 39))), (39, (.inl (po_iload 1 40))), (40, (.inl (po_iast 41))), (41, (.inl (po_aload 0 42))), (42, (.inl (po_dup 43))), (43, (.inl (po_get 7 1 46))), (46, (.inl (po_push 1 47))), (47, (.inl (po_i2 (fun x y => x + y) 48))), (48, (.inl (po_puti 7 1 51))), (51, (.inr (re_v)))]
set_option maxRecDepth 100000 in
set_option maxHeartbeats 4000000 in
theorem qs_81 : pr_aS pr_ms m_81 [(0, (.inl (po_aload 0 1))), (1, (.inl (po_get 7 1 4))), (4, (.inl (po_aload 0 5))), (5, (.inl (po_get 7 0 8))), (8, (.inl (po_alen 9))), (9, (.inl (po_if2 (fun x y => decide (x < y)) 31 12))), (31, (.inl (po_aload 0 32))), (32, (.inl (po_get 7 0 35))), (35, (.inl (po_aload 0 36))), (36, (.inl (po_get 7 1 39))), (39, (.inl (po_iload 1 40))), (40, (.inl (po_iast 41))), (41, (.inl (po_aload 0 42))), (42, (.inl (po_dup 43))), (43, (.inl (po_get 7 1 46))), (46, (.inl (po_push 1 47))), (47, (.inl (po_i2 (fun x y => x + y) 48))), (48, (.inl (po_puti 7 1 51))), (51, (.inr (re_v)))] := pr_aS_c (pr_eI (os_aload_n (q := 0) dX7_put_0)) (pr_aS_c (pr_eI (os_get (kf := 1) dX7_put_1 cf_7 (by decide) wd_410)) (pr_aS_c (pr_eI (os_aload_n (q := 0) dX7_put_4)) (pr_aS_c (pr_eI (os_get (kf := 0) dX7_put_5 cf_7 (by decide) wd_409)) (pr_aS_c (pr_eI (os_alen dX7_put_8)) (pr_aS_c (pr_eI (os_icmp_lt dX7_put_9 (by decide))) (pr_aS_c (pr_eI (os_aload_n (q := 0) dX7_put_31)) (pr_aS_c (pr_eI (os_get (kf := 0) dX7_put_32 cf_7 (by decide) wd_409)) (pr_aS_c (pr_eI (os_aload_n (q := 0) dX7_put_35)) (pr_aS_c (pr_eI (os_get (kf := 1) dX7_put_36 cf_7 (by decide) wd_410)) (pr_aS_c (pr_eI (os_iload_n (q := 1) dX7_put_39)) (pr_aS_c (pr_eI (os_iast dX7_put_40)) (pr_aS_c (pr_eI (os_aload_n (q := 0) dX7_put_41)) (pr_aS_c (pr_eI (os_dup dX7_put_42)) (pr_aS_c (pr_eI (os_get (kf := 1) dX7_put_43 cf_7 (by decide) wd_410)) (pr_aS_c (pr_eI (os_iconst dX7_put_46 (by decide +kernel))) (pr_aS_c (pr_eI (os_iadd dX7_put_47)) (pr_aS_c (pr_eI (os_puti (kf := 1) dX7_put_48 cf_7 (by decide) wd_410 rfl rfl)) (pr_aS_c (pr_eR (rs_v dX7_put_51 rfl)) trivial))))))))))))))))))
theorem dX7_append_0 : decode cX7_append 0 = .ok (.iload_n 2, 1) := by decide +kernel
theorem dX7_append_1 : decode cX7_append 1 = .ok (.ifCond .lt 16, 3) := by decide +kernel
theorem dX7_append_4 : decode cX7_append 4 = .ok (.iload_n 2, 1) := by decide +kernel
theorem dX7_append_5 : decode cX7_append 5 = .ok (.iload_n 3, 1) := by decide +kernel
theorem dX7_append_6 : decode cX7_append 6 = .ok (.if_icmp .ge 11, 3) := by decide +kernel
theorem dX7_append_9 : decode cX7_append 9 = .ok (.iload_n 3, 1) := by decide +kernel
theorem dX7_append_10 : decode cX7_append 10 = .ok (.aload_n 1, 1) := by decide +kernel
theorem dX7_append_11 : decode cX7_append 11 = .ok (.getfield 15, 3) := by decide +kernel
theorem dX7_append_14 : decode cX7_append 14 = .ok (.if_icmp .le 4, 3) := by decide +kernel
theorem dX7_append_18 : decode cX7_append 18 = .ok (.aload_n 0, 1) := by decide +kernel
theorem dX7_append_19 : decode cX7_append 19 = .ok (.getfield 15, 3) := by decide +kernel
theorem dX7_append_22 : decode cX7_append 22 = .ok (.iload_n 3, 1) := by decide +kernel
theorem dX7_append_23 : decode cX7_append 23 = .ok (.iadd, 1) := by decide +kernel
theorem dX7_append_24 : decode cX7_append 24 = .ok (.iload_n 2, 1) := by decide +kernel
theorem dX7_append_25 : decode cX7_append 25 = .ok (.isub, 1) := by decide +kernel
theorem dX7_append_26 : decode cX7_append 26 = .ok (.istore 4, 2) := by decide +kernel
theorem dX7_append_28 : decode cX7_append 28 = .ok (.iload 4, 2) := by decide +kernel
theorem dX7_append_30 : decode cX7_append 30 = .ok (.aload_n 0, 1) := by decide +kernel
theorem dX7_append_31 : decode cX7_append 31 = .ok (.getfield 9, 3) := by decide +kernel
theorem dX7_append_34 : decode cX7_append 34 = .ok (.arraylength, 1) := by decide +kernel
theorem dX7_append_35 : decode cX7_append 35 = .ok (.if_icmp .le 18, 3) := by decide +kernel
theorem dX7_append_53 : decode cX7_append 53 = .ok (.aload_n 1, 1) := by decide +kernel
theorem dX7_append_54 : decode cX7_append 54 = .ok (.getfield 9, 3) := by decide +kernel
theorem dX7_append_57 : decode cX7_append 57 = .ok (.iload_n 2, 1) := by decide +kernel
theorem dX7_append_58 : decode cX7_append 58 = .ok (.aload_n 0, 1) := by decide +kernel
theorem dX7_append_59 : decode cX7_append 59 = .ok (.getfield 9, 3) := by decide +kernel
theorem dX7_append_62 : decode cX7_append 62 = .ok (.aload_n 0, 1) := by decide +kernel
theorem dX7_append_63 : decode cX7_append 63 = .ok (.getfield 15, 3) := by decide +kernel
theorem dX7_append_66 : decode cX7_append 66 = .ok (.iload_n 3, 1) := by decide +kernel
theorem dX7_append_67 : decode cX7_append 67 = .ok (.iload_n 2, 1) := by decide +kernel
theorem dX7_append_68 : decode cX7_append 68 = .ok (.isub, 1) := by decide +kernel
theorem dX7_append_69 : decode cX7_append 69 = .ok (.invokestatic 25, 3) := by decide +kernel
theorem dX7_append_72 : decode cX7_append 72 = .ok (.aload_n 0, 1) := by decide +kernel
theorem dX7_append_73 : decode cX7_append 73 = .ok (.iload 4, 2) := by decide +kernel
theorem dX7_append_75 : decode cX7_append 75 = .ok (.putfield 15, 3) := by decide +kernel
theorem dX7_append_78 : decode cX7_append 78 = .ok (.return_, 1) := by decide +kernel
/-- InferResolve$Row.append(LInferResolve$Row;II)V -/
noncomputable def qc_82 : pr_Co := [(0, (.inl (po_iload 2 1))), (1, (.inl (po_if1 (fun x => decide (x < 0)) 17 4))), (4, (.inl (po_iload 2 5))), (5, (.inl (po_iload 3 6))), (6, (.inl (po_if2 (fun x y => decide (y ≤ x)) 17 9))), (9, (.inl (po_iload 3 10))), (10, (.inl (po_aload 1 11))), (11, (.inl (po_get 7 1 14))), (14, (.inl (po_if2 (fun x y => decide (x ≤ y)) 18 17))), (18, (.inl (po_aload 0 19))), (19, (.inl (po_get 7 1 22))), (22, (.inl (po_iload 3 23))), (23, (.inl (po_i2 (fun x y => x + y) 24))), (24, (.inl (po_iload 2 25))), (25, (.inl (po_i2 (fun x y => x - y) 26))), (26, (.inl (po_istore 4 28))), (28, (.inl (po_iload 4 30))), (30, (.inl (po_aload 0 31))), (31, (.inl (po_get 7 0 34))), (34, (.inl (po_alen 35))), (35, (.inl (po_if2 (fun x y => decide (x ≤ y)) 53 38))), (53, (.inl (po_aload 1 54))), (54, (.inl (po_get 7 0 57))), (57, (.inl (po_iload 2 58))), (58, (.inl (po_aload 0 59))), (59, (.inl (po_get 7 0 62))), (62, (.inl (po_aload 0 63))), (63, (.inl (po_get 7 1 66))), (66, (.inl (po_iload 3 67))), (67, (.inl (po_iload 2 68))), (68, (.inl (po_i2 (fun x y => x - y) 69))), (69, (.inl (po_copy 72))), (72, (.inl (po_aload 0 73))), (73, (.inl (po_iload 4 75))), (75, (.inl (po_puti 7 1 78))), (78, (.inr (re_v)))]
set_option maxRecDepth 100000 in
set_option maxHeartbeats 4000000 in
theorem qs_82 : pr_aS pr_ms m_82 [(0, (.inl (po_iload 2 1))), (1, (.inl (po_if1 (fun x => decide (x < 0)) 17 4))), (4, (.inl (po_iload 2 5))), (5, (.inl (po_iload 3 6))), (6, (.inl (po_if2 (fun x y => decide (y ≤ x)) 17 9))), (9, (.inl (po_iload 3 10))), (10, (.inl (po_aload 1 11))), (11, (.inl (po_get 7 1 14))), (14, (.inl (po_if2 (fun x y => decide (x ≤ y)) 18 17))), (18, (.inl (po_aload 0 19))), (19, (.inl (po_get 7 1 22))), (22, (.inl (po_iload 3 23))), (23, (.inl (po_i2 (fun x y => x + y) 24))), (24, (.inl (po_iload 2 25))), (25, (.inl (po_i2 (fun x y => x - y) 26))), (26, (.inl (po_istore 4 28))), (28, (.inl (po_iload 4 30))), (30, (.inl (po_aload 0 31))), (31, (.inl (po_get 7 0 34))), (34, (.inl (po_alen 35))), (35, (.inl (po_if2 (fun x y => decide (x ≤ y)) 53 38))), (53, (.inl (po_aload 1 54))), (54, (.inl (po_get 7 0 57))), (57, (.inl (po_iload 2 58))), (58, (.inl (po_aload 0 59))), (59, (.inl (po_get 7 0 62))), (62, (.inl (po_aload 0 63))), (63, (.inl (po_get 7 1 66))), (66, (.inl (po_iload 3 67))), (67, (.inl (po_iload 2 68))), (68, (.inl (po_i2 (fun x y => x - y) 69))), (69, (.inl (po_copy 72))), (72, (.inl (po_aload 0 73))), (73, (.inl (po_iload 4 75))), (75, (.inl (po_puti 7 1 78))), (78, (.inr (re_v)))] := pr_aS_c (pr_eI (os_iload_n (q := 2) dX7_append_0)) (pr_aS_c (pr_eI (os_if_lt dX7_append_1 (by decide))) (pr_aS_c (pr_eI (os_iload_n (q := 2) dX7_append_4)) (pr_aS_c (pr_eI (os_iload_n (q := 3) dX7_append_5)) (pr_aS_c (pr_eI (os_icmp_ge dX7_append_6 (by decide))) (pr_aS_c (pr_eI (os_iload_n (q := 3) dX7_append_9)) (pr_aS_c (pr_eI (os_aload_n (q := 1) dX7_append_10)) (pr_aS_c (pr_eI (os_get (kf := 1) dX7_append_11 cf_7 (by decide) wd_410)) (pr_aS_c (pr_eI (os_icmp_le dX7_append_14 (by decide))) (pr_aS_c (pr_eI (os_aload_n (q := 0) dX7_append_18)) (pr_aS_c (pr_eI (os_get (kf := 1) dX7_append_19 cf_7 (by decide) wd_410)) (pr_aS_c (pr_eI (os_iload_n (q := 3) dX7_append_22)) (pr_aS_c (pr_eI (os_iadd dX7_append_23)) (pr_aS_c (pr_eI (os_iload_n (q := 2) dX7_append_24)) (pr_aS_c (pr_eI (os_isub dX7_append_25)) (pr_aS_c (pr_eI (os_istore dX7_append_26 (by decide))) (pr_aS_c (pr_eI (os_iload dX7_append_28)) (pr_aS_c (pr_eI (os_aload_n (q := 0) dX7_append_30)) (pr_aS_c (pr_eI (os_get (kf := 0) dX7_append_31 cf_7 (by decide) wd_409)) (pr_aS_c (pr_eI (os_alen dX7_append_34)) (pr_aS_c (pr_eI (os_icmp_le dX7_append_35 (by decide))) (pr_aS_c (pr_eI (os_aload_n (q := 1) dX7_append_53)) (pr_aS_c (pr_eI (os_get (kf := 0) dX7_append_54 cf_7 (by decide) wd_409)) (pr_aS_c (pr_eI (os_iload_n (q := 2) dX7_append_57)) (pr_aS_c (pr_eI (os_aload_n (q := 0) dX7_append_58)) (pr_aS_c (pr_eI (os_get (kf := 0) dX7_append_59 cf_7 (by decide) wd_409)) (pr_aS_c (pr_eI (os_aload_n (q := 0) dX7_append_62)) (pr_aS_c (pr_eI (os_get (kf := 1) dX7_append_63 cf_7 (by decide) wd_410)) (pr_aS_c (pr_eI (os_iload_n (q := 3) dX7_append_66)) (pr_aS_c (pr_eI (os_iload_n (q := 2) dX7_append_67)) (pr_aS_c (pr_eI (os_isub dX7_append_68)) (pr_aS_c (pr_eI (os_copy dX7_append_69 wd_411 wd_337 wd_338 wd_339)) (pr_aS_c (pr_eI (os_aload_n (q := 0) dX7_append_72)) (pr_aS_c (pr_eI (os_iload dX7_append_73)) (pr_aS_c (pr_eI (os_puti (kf := 1) dX7_append_75 cf_7 (by decide) wd_410 rfl rfl)) (pr_aS_c (pr_eR (rs_v dX7_append_78 rfl)) trivial)))))))))))))))))))))))))))))))))))
theorem dX7_cut_0 : decode cX7_cut 0 = .ok (.iload_n 1, 1) := by decide +kernel
theorem dX7_cut_1 : decode cX7_cut 1 = .ok (.ifCond .lt 16, 3) := by decide +kernel
theorem dX7_cut_4 : decode cX7_cut 4 = .ok (.iload_n 1, 1) := by decide +kernel
theorem dX7_cut_5 : decode cX7_cut 5 = .ok (.aload_n 0, 1) := by decide +kernel
theorem dX7_cut_6 : decode cX7_cut 6 = .ok (.getfield 15, 3) := by decide +kernel
theorem dX7_cut_9 : decode cX7_cut 9 = .ok (.if_icmp .ge 8, 3) := by decide +kernel
theorem dX7_cut_12 : decode cX7_cut 12 = .ok (.aload_n 0, 1) := by decide +kernel
theorem dX7_cut_13 : decode cX7_cut 13 = .ok (.iload_n 1, 1) := by decide +kernel
theorem dX7_cut_14 : decode cX7_cut 14 = .ok (.putfield 15, 3) := by decide +kernel
theorem dX7_cut_17 : decode cX7_cut 17 = .ok (.return_, 1) := by decide +kernel
/-- InferResolve$Row.cut(I)V -/
noncomputable def qc_83 : pr_Co := [(0, (.inl (po_iload 1 1))), (1, (.inl (po_if1 (fun x => decide (x < 0)) 17 4))), (4, (.inl (po_iload 1 5))), (5, (.inl (po_aload 0 6))), (6, (.inl (po_get 7 1 9))), (9, (.inl (po_if2 (fun x y => decide (y ≤ x)) 17 12))), (12, (.inl (po_aload 0 13))), (13, (.inl (po_iload 1 14))), (14, (.inl (po_puti 7 1 17))), (17, (.inr (re_v)))]
set_option maxRecDepth 100000 in
set_option maxHeartbeats 4000000 in
theorem qs_83 : pr_aS pr_ms m_83 [(0, (.inl (po_iload 1 1))), (1, (.inl (po_if1 (fun x => decide (x < 0)) 17 4))), (4, (.inl (po_iload 1 5))), (5, (.inl (po_aload 0 6))), (6, (.inl (po_get 7 1 9))), (9, (.inl (po_if2 (fun x y => decide (y ≤ x)) 17 12))), (12, (.inl (po_aload 0 13))), (13, (.inl (po_iload 1 14))), (14, (.inl (po_puti 7 1 17))), (17, (.inr (re_v)))] := pr_aS_c (pr_eI (os_iload_n (q := 1) dX7_cut_0)) (pr_aS_c (pr_eI (os_if_lt dX7_cut_1 (by decide))) (pr_aS_c (pr_eI (os_iload_n (q := 1) dX7_cut_4)) (pr_aS_c (pr_eI (os_aload_n (q := 0) dX7_cut_5)) (pr_aS_c (pr_eI (os_get (kf := 1) dX7_cut_6 cf_7 (by decide) wd_410)) (pr_aS_c (pr_eI (os_icmp_ge dX7_cut_9 (by decide))) (pr_aS_c (pr_eI (os_aload_n (q := 0) dX7_cut_12)) (pr_aS_c (pr_eI (os_iload_n (q := 1) dX7_cut_13)) (pr_aS_c (pr_eI (os_puti (kf := 1) dX7_cut_14 cf_7 (by decide) wd_410 rfl rfl)) (pr_aS_c (pr_eR (rs_v dX7_cut_17 rfl)) trivial)))))))))
theorem dX8_init_0 : decode cX8_init 0 = .ok (.aload_n 0, 1) := by decide +kernel
theorem dX8_init_1 : decode cX8_init 1 = .ok (.invokespecial 3, 3) := by decide +kernel
theorem dX8_init_4 : decode cX8_init 4 = .ok (.aload_n 0, 1) := by decide +kernel
theorem dX8_init_5 : decode cX8_init 5 = .ok (.bipush 6, 2) := by decide +kernel
theorem dX8_init_7 : decode cX8_init 7 = .ok (.newarray .int, 2) := by decide +kernel
theorem dX8_init_9 : decode cX8_init 9 = .ok (.putfield 9, 3) := by decide +kernel
theorem dX8_init_12 : decode cX8_init 12 = .ok (.aload_n 0, 1) := by decide +kernel
theorem dX8_init_13 : decode cX8_init 13 = .ok (.new 15, 3) := by decide +kernel
theorem dX8_init_16 : decode cX8_init 16 = .ok (.dup, 1) := by decide +kernel
theorem dX8_init_17 : decode cX8_init 17 = .ok (.bipush 32, 2) := by decide +kernel
theorem dX8_init_19 : decode cX8_init 19 = .ok (.invokespecial 17, 3) := by decide +kernel
theorem dX8_init_22 : decode cX8_init 22 = .ok (.putfield 20, 3) := by decide +kernel
theorem dX8_init_25 : decode cX8_init 25 = .ok (.aload_n 0, 1) := by decide +kernel
theorem dX8_init_26 : decode cX8_init 26 = .ok (.new 15, 3) := by decide +kernel
theorem dX8_init_29 : decode cX8_init 29 = .ok (.dup, 1) := by decide +kernel
theorem dX8_init_30 : decode cX8_init 30 = .ok (.bipush 32, 2) := by decide +kernel
theorem dX8_init_32 : decode cX8_init 32 = .ok (.invokespecial 17, 3) := by decide +kernel
theorem dX8_init_35 : decode cX8_init 35 = .ok (.putfield 24, 3) := by decide +kernel
theorem dX8_init_38 : decode cX8_init 38 = .ok (.aload_n 0, 1) := by decide +kernel
theorem dX8_init_39 : decode cX8_init 39 = .ok (.new 15, 3) := by decide +kernel
theorem dX8_init_42 : decode cX8_init 42 = .ok (.dup, 1) := by decide +kernel
theorem dX8_init_43 : decode cX8_init 43 = .ok (.bipush 64, 2) := by decide +kernel
theorem dX8_init_45 : decode cX8_init 45 = .ok (.invokespecial 17, 3) := by decide +kernel
theorem dX8_init_48 : decode cX8_init 48 = .ok (.putfield 27, 3) := by decide +kernel
theorem dX8_init_51 : decode cX8_init 51 = .ok (.aload_n 0, 1) := by decide +kernel
theorem dX8_init_52 : decode cX8_init 52 = .ok (.new 15, 3) := by decide +kernel
theorem dX8_init_55 : decode cX8_init 55 = .ok (.dup, 1) := by decide +kernel
theorem dX8_init_56 : decode cX8_init 56 = .ok (.bipush 6, 2) := by decide +kernel
theorem dX8_init_58 : decode cX8_init 58 = .ok (.invokespecial 17, 3) := by decide +kernel
theorem dX8_init_61 : decode cX8_init 61 = .ok (.putfield 30, 3) := by decide +kernel
theorem dX8_init_64 : decode cX8_init 64 = .ok (.aload_n 0, 1) := by decide +kernel
theorem dX8_init_65 : decode cX8_init 65 = .ok (.aload_n 1, 1) := by decide +kernel
theorem dX8_init_66 : decode cX8_init 66 = .ok (.putfield 33, 3) := by decide +kernel
theorem dX8_init_69 : decode cX8_init 69 = .ok (.aload_n 0, 1) := by decide +kernel
theorem dX8_init_70 : decode cX8_init 70 = .ok (.aload_n 2, 1) := by decide +kernel
theorem dX8_init_71 : decode cX8_init 71 = .ok (.putfield 37, 3) := by decide +kernel
theorem dX8_init_74 : decode cX8_init 74 = .ok (.return_, 1) := by decide +kernel
/-- InferResolve$Solver.<init>(LInferResolve$Bounds;LInferResolve$Lattice;)V -/
noncomputable def qc_84 : pr_Co := [(0, (.inl (po_aload 0 1))), (1, (.inl (po_oi 4))), (4, (.inl (po_aload 0 5))), (5, (.inl (po_push 6 7))), (7, (.inl (po_newI 9))), (9, (.inl (po_putr 8 2 12))), (12, (.inl (po_aload 0 13))), (13, (.inl (po_new 7 [.null, .int 0] 16))), (16, (.inl (po_dup 17))), (17, (.inl (po_push 32 19))), (19, (.inl (po_ci 78 1 2 22))), (22, (.inl (po_putr 8 3 25))), (25, (.inl (po_aload 0 26))), (26, (.inl (po_new 7 [.null, .int 0] 29))), (29, (.inl (po_dup 30))), (30, (.inl (po_push 32 32))), (32, (.inl (po_ci 78 1 2 35))), (35, (.inl (po_putr 8 4 38))), (38, (.inl (po_aload 0 39))), (39, (.inl (po_new 7 [.null, .int 0] 42))), (42, (.inl (po_dup 43))), (43, (.inl (po_push 64 45))), (45, (.inl (po_ci 78 1 2 48))), (48, (.inl (po_putr 8 5 51))), (51, (.inl (po_aload 0 52))), (52, (.inl (po_new 7 [.null, .int 0] 55))), (55, (.inl (po_dup 56))), (56, (.inl (po_push 6 58))), (58, (.inl (po_ci 78 1 2 61))), (61, (.inl (po_putr 8 6 64))), (64, (.inl (po_aload 0 65))), (65, (.inl (po_aload 1 66))), (66, (.inl (po_putr 8 0 69))), (69, (.inl (po_aload 0 70))), (70, (.inl (po_aload 2 71))), (71, (.inl (po_putr 8 1 74))), (74, (.inr (re_v)))]
set_option maxRecDepth 100000 in
set_option maxHeartbeats 4000000 in
theorem qs_84 : pr_aS pr_ms m_84 [(0, (.inl (po_aload 0 1))), (1, (.inl (po_oi 4))), (4, (.inl (po_aload 0 5))), (5, (.inl (po_push 6 7))), (7, (.inl (po_newI 9))), (9, (.inl (po_putr 8 2 12))), (12, (.inl (po_aload 0 13))), (13, (.inl (po_new 7 [.null, .int 0] 16))), (16, (.inl (po_dup 17))), (17, (.inl (po_push 32 19))), (19, (.inl (po_ci 78 1 2 22))), (22, (.inl (po_putr 8 3 25))), (25, (.inl (po_aload 0 26))), (26, (.inl (po_new 7 [.null, .int 0] 29))), (29, (.inl (po_dup 30))), (30, (.inl (po_push 32 32))), (32, (.inl (po_ci 78 1 2 35))), (35, (.inl (po_putr 8 4 38))), (38, (.inl (po_aload 0 39))), (39, (.inl (po_new 7 [.null, .int 0] 42))), (42, (.inl (po_dup 43))), (43, (.inl (po_push 64 45))), (45, (.inl (po_ci 78 1 2 48))), (48, (.inl (po_putr 8 5 51))), (51, (.inl (po_aload 0 52))), (52, (.inl (po_new 7 [.null, .int 0] 55))), (55, (.inl (po_dup 56))), (56, (.inl (po_push 6 58))), (58, (.inl (po_ci 78 1 2 61))), (61, (.inl (po_putr 8 6 64))), (64, (.inl (po_aload 0 65))), (65, (.inl (po_aload 1 66))), (66, (.inl (po_putr 8 0 69))), (69, (.inl (po_aload 0 70))), (70, (.inl (po_aload 2 71))), (71, (.inl (po_putr 8 1 74))), (74, (.inr (re_v)))] := pr_aS_c (pr_eI (os_aload_n (q := 0) dX8_init_0)) (pr_aS_c (pr_eI (os_oi dX8_init_1 wd_412 wd_1 wd_2)) (pr_aS_c (pr_eI (os_aload_n (q := 0) dX8_init_4)) (pr_aS_c (pr_eI (os_bipush dX8_init_5 (by decide +kernel))) (pr_aS_c (pr_eI (os_newI dX8_init_7 wd_138)) (pr_aS_c (pr_eI (os_putrF (kf := 2) dX8_init_9 cf_8 (by decide) wd_413 rfl rfl rfl (Or.inr ⟨_, rfl⟩))) (pr_aS_c (pr_eI (os_aload_n (q := 0) dX8_init_12)) (pr_aS_c (pr_eI (os_new dX8_init_13 cf_7 wd_414 wd_4 wd_5 (by decide +kernel))) (pr_aS_c (pr_eI (os_dup dX8_init_16)) (pr_aS_c (pr_eI (os_bipush dX8_init_17 (by decide +kernel))) (pr_aS_c (pr_eI (os_ci dX8_init_19 (k := 78) rfl rfl cal_78 wd_415 wd_7 rfl rfl)) (pr_aS_c (pr_eI (os_putrF (kf := 3) dX8_init_22 cf_8 (by decide) wd_416 rfl rfl rfl (Or.inl ⟨_, rfl⟩))) (pr_aS_c (pr_eI (os_aload_n (q := 0) dX8_init_25)) (pr_aS_c (pr_eI (os_new dX8_init_26 cf_7 wd_414 wd_4 wd_5 (by decide +kernel))) (pr_aS_c (pr_eI (os_dup dX8_init_29)) (pr_aS_c (pr_eI (os_bipush dX8_init_30 (by decide +kernel))) (pr_aS_c (pr_eI (os_ci dX8_init_32 (k := 78) rfl rfl cal_78 wd_415 wd_7 rfl rfl)) (pr_aS_c (pr_eI (os_putrF (kf := 4) dX8_init_35 cf_8 (by decide) wd_417 rfl rfl rfl (Or.inl ⟨_, rfl⟩))) (pr_aS_c (pr_eI (os_aload_n (q := 0) dX8_init_38)) (pr_aS_c (pr_eI (os_new dX8_init_39 cf_7 wd_414 wd_4 wd_5 (by decide +kernel))) (pr_aS_c (pr_eI (os_dup dX8_init_42)) (pr_aS_c (pr_eI (os_bipush dX8_init_43 (by decide +kernel))) (pr_aS_c (pr_eI (os_ci dX8_init_45 (k := 78) rfl rfl cal_78 wd_415 wd_7 rfl rfl)) (pr_aS_c (pr_eI (os_putrF (kf := 5) dX8_init_48 cf_8 (by decide) wd_418 rfl rfl rfl (Or.inl ⟨_, rfl⟩))) (pr_aS_c (pr_eI (os_aload_n (q := 0) dX8_init_51)) (pr_aS_c (pr_eI (os_new dX8_init_52 cf_7 wd_414 wd_4 wd_5 (by decide +kernel))) (pr_aS_c (pr_eI (os_dup dX8_init_55)) (pr_aS_c (pr_eI (os_bipush dX8_init_56 (by decide +kernel))) (pr_aS_c (pr_eI (os_ci dX8_init_58 (k := 78) rfl rfl cal_78 wd_415 wd_7 rfl rfl)) (pr_aS_c (pr_eI (os_putrF (kf := 6) dX8_init_61 cf_8 (by decide) wd_419 rfl rfl rfl (Or.inl ⟨_, rfl⟩))) (pr_aS_c (pr_eI (os_aload_n (q := 0) dX8_init_64)) (pr_aS_c (pr_eI (os_aload_n (q := 1) dX8_init_65)) (pr_aS_c (pr_eI (os_putrF (kf := 0) dX8_init_66 cf_8 (by decide) wd_420 rfl rfl rfl (Or.inl ⟨_, rfl⟩))) (pr_aS_c (pr_eI (os_aload_n (q := 0) dX8_init_69)) (pr_aS_c (pr_eI (os_aload_n (q := 2) dX8_init_70)) (pr_aS_c (pr_eI (os_putrF (kf := 1) dX8_init_71 cf_8 (by decide) wd_421 rfl rfl rfl (Or.inl ⟨_, rfl⟩))) (pr_aS_c (pr_eR (rs_v dX8_init_74 rfl)) trivial))))))))))))))))))))))))))))))))))))
theorem dX8_solved_0 : decode cX8_solved 0 = .ok (.iconst 0, 1) := by decide +kernel
theorem dX8_solved_1 : decode cX8_solved 1 = .ok (.istore_n 1, 1) := by decide +kernel
theorem dX8_solved_2 : decode cX8_solved 2 = .ok (.iconst 0, 1) := by decide +kernel
theorem dX8_solved_3 : decode cX8_solved 3 = .ok (.istore_n 2, 1) := by decide +kernel
theorem dX8_solved_4 : decode cX8_solved 4 = .ok (.iload_n 2, 1) := by decide +kernel
theorem dX8_solved_5 : decode cX8_solved 5 = .ok (.aload_n 0, 1) := by decide +kernel
theorem dX8_solved_6 : decode cX8_solved 6 = .ok (.getfield 33, 3) := by decide +kernel
theorem dX8_solved_9 : decode cX8_solved 9 = .ok (.invokevirtual 41, 3) := by decide +kernel
theorem dX8_solved_12 : decode cX8_solved 12 = .ok (.if_icmp .ge 36, 3) := by decide +kernel
theorem dX8_solved_48 : decode cX8_solved 48 = .ok (.iload_n 1, 1) := by decide +kernel
theorem dX8_solved_49 : decode cX8_solved 49 = .ok (.ireturn, 1) := by decide +kernel
/-- InferResolve$Solver.solved()I -/
noncomputable def qc_85 : pr_Co := [(0, (.inl (po_push 0 1))), (1, (.inl (po_istore 1 2))), (2, (.inl (po_push 0 3))), (3, (.inl (po_istore 2 4))), (4, (.inl (po_iload 2 5))), (5, (.inl (po_aload 0 6))), (6, (.inl (po_get 8 0 9))), (9, (.inl (po_cv 48 0 0 1 12))), (12, (.inl (po_if2 (fun x y => decide (y ≤ x)) 48 15))), (48, (.inl (po_iload 1 49))), (49, (.inr (re_i)))]
set_option maxRecDepth 100000 in
set_option maxHeartbeats 4000000 in
theorem qs_85 : pr_aS pr_ms m_85 [(0, (.inl (po_push 0 1))), (1, (.inl (po_istore 1 2))), (2, (.inl (po_push 0 3))), (3, (.inl (po_istore 2 4))), (4, (.inl (po_iload 2 5))), (5, (.inl (po_aload 0 6))), (6, (.inl (po_get 8 0 9))), (9, (.inl (po_cv 48 0 0 1 12))), (12, (.inl (po_if2 (fun x y => decide (y ≤ x)) 48 15))), (48, (.inl (po_iload 1 49))), (49, (.inr (re_i)))] := pr_aS_c (pr_eI (os_iconst dX8_solved_0 (by decide +kernel))) (pr_aS_c (pr_eI (os_istore_n (q := 1) dX8_solved_1 (by decide))) (pr_aS_c (pr_eI (os_iconst dX8_solved_2 (by decide +kernel))) (pr_aS_c (pr_eI (os_istore_n (q := 2) dX8_solved_3 (by decide))) (pr_aS_c (pr_eI (os_iload_n (q := 2) dX8_solved_4)) (pr_aS_c (pr_eI (os_aload_n (q := 0) dX8_solved_5)) (pr_aS_c (pr_eI (os_get (kf := 0) dX8_solved_6 cf_8 (by decide) wd_420)) (pr_aS_c (pr_eI (os_cv dX8_solved_9 (k := 48) rfl rfl cal_48 wd_422 wd_86 wd_85 rfl)) (pr_aS_c (pr_eI (os_icmp_ge dX8_solved_12 (by decide))) (pr_aS_c (pr_eI (os_iload_n (q := 1) dX8_solved_48)) (pr_aS_c (pr_eR (rs_i dX8_solved_49 rfl)) trivial))))))))))
theorem dX8_nextSet_0 : decode cX8_nextSet 0 = .ok (.iconst 1, 1) := by decide +kernel
theorem dX8_nextSet_1 : decode cX8_nextSet 1 = .ok (.iload_n 1, 1) := by decide +kernel
theorem dX8_nextSet_2 : decode cX8_nextSet 2 = .ok (.ishl, 1) := by decide +kernel
theorem dX8_nextSet_3 : decode cX8_nextSet 3 = .ok (.iconst 1, 1) := by decide +kernel
theorem dX8_nextSet_4 : decode cX8_nextSet 4 = .ok (.isub, 1) := by decide +kernel
theorem dX8_nextSet_5 : decode cX8_nextSet 5 = .ok (.aload_n 0, 1) := by decide +kernel
theorem dX8_nextSet_6 : decode cX8_nextSet 6 = .ok (.invokevirtual 55, 3) := by decide +kernel
theorem dX8_nextSet_9 : decode cX8_nextSet 9 = .ok (.iconst (-1), 1) := by decide +kernel
theorem dX8_nextSet_10 : decode cX8_nextSet 10 = .ok (.ixor, 1) := by decide +kernel
theorem dX8_nextSet_11 : decode cX8_nextSet 11 = .ok (.iand, 1) := by decide +kernel
theorem dX8_nextSet_12 : decode cX8_nextSet 12 = .ok (.istore_n 2, 1) := by decide +kernel
theorem dX8_nextSet_13 : decode cX8_nextSet 13 = .ok (.aload_n 0, 1) := by decide +kernel
theorem dX8_nextSet_14 : decode cX8_nextSet 14 = .ok (.invokevirtual 58, 3) := by decide +kernel
theorem dX8_nextSet_17 : decode cX8_nextSet 17 = .ok (.iconst 0, 1) := by decide +kernel
theorem dX8_nextSet_18 : decode cX8_nextSet 18 = .ok (.istore_n 3, 1) := by decide +kernel
theorem dX8_nextSet_19 : decode cX8_nextSet 19 = .ok (.iconst 0, 1) := by decide +kernel
theorem dX8_nextSet_20 : decode cX8_nextSet 20 = .ok (.istore 4, 2) := by decide +kernel
theorem dX8_nextSet_22 : decode cX8_nextSet 22 = .ok (.iload 4, 2) := by decide +kernel
theorem dX8_nextSet_24 : decode cX8_nextSet 24 = .ok (.iload_n 1, 1) := by decide +kernel
theorem dX8_nextSet_25 : decode cX8_nextSet 25 = .ok (.if_icmp .ge 67, 3) := by decide +kernel
theorem dX8_nextSet_92 : decode cX8_nextSet 92 = .ok (.iload_n 3, 1) := by decide +kernel
theorem dX8_nextSet_93 : decode cX8_nextSet 93 = .ok (.ireturn, 1) := by decide +kernel
/-- InferResolve$Solver.nextSet(I)I -/
noncomputable def qc_86 : pr_Co := [(0, (.inl (po_push 1 1))), (1, (.inl (po_iload 1 2))), (2, (.inl (po_i2 (fun x y => x <<< (y &&& 31)) 3))), (3, (.inl (po_push 1 4))), (4, (.inl (po_i2 (fun x y => x - y) 5))), (5, (.inl (po_aload 0 6))), (6, (.inl (po_cv 85 0 8 3 9))), (9, (.inl (po_push (-1) 10))), (10, (.inl (po_i2 (fun x y => x ^^^ y) 11))), (11, (.inl (po_i2 (fun x y => x &&& y) 12))), (12, (.inl (po_istore 2 13))), (13, (.inl (po_aload 0 14))), (14, (.inl (po_cv 87 0 8 3 17))), (17, (.inl (po_push 0 18))), (18, (.inl (po_istore 3 19))), (19, (.inl (po_push 0 20))), (20, (.inl (po_istore 4 22))), (22, (.inl (po_iload 4 24))), (24, (.inl (po_iload 1 25))), (25, (.inl (po_if2 (fun x y => decide (y ≤ x)) 92 28))), (92, (.inl (po_iload 3 93))), (93, (.inr (re_i)))]
set_option maxRecDepth 100000 in
set_option maxHeartbeats 4000000 in
theorem qs_86 : pr_aS pr_ms m_86 [(0, (.inl (po_push 1 1))), (1, (.inl (po_iload 1 2))), (2, (.inl (po_i2 (fun x y => x <<< (y &&& 31)) 3))), (3, (.inl (po_push 1 4))), (4, (.inl (po_i2 (fun x y => x - y) 5))), (5, (.inl (po_aload 0 6))), (6, (.inl (po_cv 85 0 8 3 9))), (9, (.inl (po_push (-1) 10))), (10, (.inl (po_i2 (fun x y => x ^^^ y) 11))), (11, (.inl (po_i2 (fun x y => x &&& y) 12))), (12, (.inl (po_istore 2 13))), (13, (.inl (po_aload 0 14))), (14, (.inl (po_cv 87 0 8 3 17))), (17, (.inl (po_push 0 18))), (18, (.inl (po_istore 3 19))), (19, (.inl (po_push 0 20))), (20, (.inl (po_istore 4 22))), (22, (.inl (po_iload 4 24))), (24, (.inl (po_iload 1 25))), (25, (.inl (po_if2 (fun x y => decide (y ≤ x)) 92 28))), (92, (.inl (po_iload 3 93))), (93, (.inr (re_i)))] := pr_aS_c (pr_eI (os_iconst dX8_nextSet_0 (by decide +kernel))) (pr_aS_c (pr_eI (os_iload_n (q := 1) dX8_nextSet_1)) (pr_aS_c (pr_eI (os_ishl dX8_nextSet_2)) (pr_aS_c (pr_eI (os_iconst dX8_nextSet_3 (by decide +kernel))) (pr_aS_c (pr_eI (os_isub dX8_nextSet_4)) (pr_aS_c (pr_eI (os_aload_n (q := 0) dX8_nextSet_5)) (pr_aS_c (pr_eI (os_cv dX8_nextSet_6 (k := 85) rfl rfl cal_85 wd_423 wd_105 wd_104 rfl)) (pr_aS_c (pr_eI (os_iconst dX8_nextSet_9 (by decide +kernel))) (pr_aS_c (pr_eI (os_ixor dX8_nextSet_10)) (pr_aS_c (pr_eI (os_iand dX8_nextSet_11)) (pr_aS_c (pr_eI (os_istore_n (q := 2) dX8_nextSet_12 (by decide))) (pr_aS_c (pr_eI (os_aload_n (q := 0) dX8_nextSet_13)) (pr_aS_c (pr_eI (os_cv dX8_nextSet_14 (k := 87) rfl rfl cal_87 wd_424 wd_426 wd_425 rfl)) (pr_aS_c (pr_eI (os_iconst dX8_nextSet_17 (by decide +kernel))) (pr_aS_c (pr_eI (os_istore_n (q := 3) dX8_nextSet_18 (by decide))) (pr_aS_c (pr_eI (os_iconst dX8_nextSet_19 (by decide +kernel))) (pr_aS_c (pr_eI (os_istore dX8_nextSet_20 (by decide))) (pr_aS_c (pr_eI (os_iload dX8_nextSet_22)) (pr_aS_c (pr_eI (os_iload_n (q := 1) dX8_nextSet_24)) (pr_aS_c (pr_eI (os_icmp_ge dX8_nextSet_25 (by decide))) (pr_aS_c (pr_eI (os_iload_n (q := 3) dX8_nextSet_92)) (pr_aS_c (pr_eR (rs_i dX8_nextSet_93 rfl)) trivial)))))))))))))))))))))
theorem dX8_findLeans_0 : decode cX8_findLeans 0 = .ok (.iconst 0, 1) := by decide +kernel
theorem dX8_findLeans_1 : decode cX8_findLeans 1 = .ok (.istore_n 1, 1) := by decide +kernel
theorem dX8_findLeans_2 : decode cX8_findLeans 2 = .ok (.iload_n 1, 1) := by decide +kernel
theorem dX8_findLeans_3 : decode cX8_findLeans 3 = .ok (.bipush 6, 2) := by decide +kernel
theorem dX8_findLeans_5 : decode cX8_findLeans 5 = .ok (.if_icmp .ge 18, 3) := by decide +kernel
theorem dX8_findLeans_8 : decode cX8_findLeans 8 = .ok (.aload_n 0, 1) := by decide +kernel
theorem dX8_findLeans_9 : decode cX8_findLeans 9 = .ok (.getfield 9, 3) := by decide +kernel
theorem dX8_findLeans_12 : decode cX8_findLeans 12 = .ok (.iload_n 1, 1) := by decide +kernel
theorem dX8_findLeans_13 : decode cX8_findLeans 13 = .ok (.iconst 1, 1) := by decide +kernel
theorem dX8_findLeans_14 : decode cX8_findLeans 14 = .ok (.iload_n 1, 1) := by decide +kernel
theorem dX8_findLeans_15 : decode cX8_findLeans 15 = .ok (.ishl, 1) := by decide +kernel
theorem dX8_findLeans_16 : decode cX8_findLeans 16 = .ok (.iastore, 1) := by decide +kernel
theorem dX8_findLeans_17 : decode cX8_findLeans 17 = .ok (.iinc 1 1, 3) := by decide +kernel
theorem dX8_findLeans_20 : decode cX8_findLeans 20 = .ok (.goto (-18), 3) := by decide +kernel
theorem dX8_findLeans_23 : decode cX8_findLeans 23 = .ok (.iconst 0, 1) := by decide +kernel
theorem dX8_findLeans_24 : decode cX8_findLeans 24 = .ok (.istore_n 1, 1) := by decide +kernel
theorem dX8_findLeans_25 : decode cX8_findLeans 25 = .ok (.iload_n 1, 1) := by decide +kernel
theorem dX8_findLeans_26 : decode cX8_findLeans 26 = .ok (.aload_n 0, 1) := by decide +kernel
theorem dX8_findLeans_27 : decode cX8_findLeans 27 = .ok (.getfield 33, 3) := by decide +kernel
theorem dX8_findLeans_30 : decode cX8_findLeans 30 = .ok (.invokevirtual 41, 3) := by decide +kernel
theorem dX8_findLeans_33 : decode cX8_findLeans 33 = .ok (.if_icmp .ge 65, 3) := by decide +kernel
theorem dX8_findLeans_98 : decode cX8_findLeans 98 = .ok (.iconst 0, 1) := by decide +kernel
theorem dX8_findLeans_99 : decode cX8_findLeans 99 = .ok (.istore_n 1, 1) := by decide +kernel
theorem dX8_findLeans_100 : decode cX8_findLeans 100 = .ok (.iload_n 1, 1) := by decide +kernel
theorem dX8_findLeans_101 : decode cX8_findLeans 101 = .ok (.bipush 6, 2) := by decide +kernel
theorem dX8_findLeans_103 : decode cX8_findLeans 103 = .ok (.if_icmp .ge 51, 3) := by decide +kernel
theorem dX8_findLeans_106 : decode cX8_findLeans 106 = .ok (.iconst 0, 1) := by decide +kernel
theorem dX8_findLeans_107 : decode cX8_findLeans 107 = .ok (.istore_n 2, 1) := by decide +kernel
theorem dX8_findLeans_108 : decode cX8_findLeans 108 = .ok (.iload_n 2, 1) := by decide +kernel
theorem dX8_findLeans_109 : decode cX8_findLeans 109 = .ok (.bipush 6, 2) := by decide +kernel
theorem dX8_findLeans_111 : decode cX8_findLeans 111 = .ok (.if_icmp .ge 37, 3) := by decide +kernel
theorem dX8_findLeans_114 : decode cX8_findLeans 114 = .ok (.aload_n 0, 1) := by decide +kernel
theorem dX8_findLeans_115 : decode cX8_findLeans 115 = .ok (.getfield 9, 3) := by decide +kernel
theorem dX8_findLeans_118 : decode cX8_findLeans 118 = .ok (.iload_n 2, 1) := by decide +kernel
theorem dX8_findLeans_119 : decode cX8_findLeans 119 = .ok (.iaload, 1) := by decide +kernel
theorem dX8_findLeans_120 : decode cX8_findLeans 120 = .ok (.iload_n 1, 1) := by decide +kernel
theorem dX8_findLeans_121 : decode cX8_findLeans 121 = .ok (.ishr, 1) := by decide +kernel
theorem dX8_findLeans_122 : decode cX8_findLeans 122 = .ok (.iconst 1, 1) := by decide +kernel
theorem dX8_findLeans_123 : decode cX8_findLeans 123 = .ok (.iand, 1) := by decide +kernel
theorem dX8_findLeans_124 : decode cX8_findLeans 124 = .ok (.ifCond .eq 18, 3) := by decide +kernel
theorem dX8_findLeans_127 : decode cX8_findLeans 127 = .ok (.aload_n 0, 1) := by decide +kernel
theorem dX8_findLeans_128 : decode cX8_findLeans 128 = .ok (.getfield 9, 3) := by decide +kernel
theorem dX8_findLeans_131 : decode cX8_findLeans 131 = .ok (.iload_n 2, 1) := by decide +kernel
theorem dX8_findLeans_132 : decode cX8_findLeans 132 = .ok (.dup2, 1) := by decide +kernel
theorem dX8_findLeans_133 : decode cX8_findLeans 133 = .ok (.iaload, 1) := by decide +kernel
theorem dX8_findLeans_134 : decode cX8_findLeans 134 = .ok (.aload_n 0, 1) := by decide +kernel
theorem dX8_findLeans_135 : decode cX8_findLeans 135 = .ok (.getfield 9, 3) := by decide +kernel
theorem dX8_findLeans_138 : decode cX8_findLeans 138 = .ok (.iload_n 1, 1) := by decide +kernel
theorem dX8_findLeans_139 : decode cX8_findLeans 139 = .ok (.iaload, 1) := by decide +kernel
theorem dX8_findLeans_140 : decode cX8_findLeans 140 = .ok (.ior, 1) := by decide +kernel
theorem dX8_findLeans_141 : decode cX8_findLeans 141 = .ok (.iastore, 1) := by decide +kernel
theorem dX8_findLeans_142 : decode cX8_findLeans 142 = .ok (.iinc 2 1, 3) := by decide +kernel
theorem dX8_findLeans_145 : decode cX8_findLeans 145 = .ok (.goto (-37), 3) := by decide +kernel
theorem dX8_findLeans_148 : decode cX8_findLeans 148 = .ok (.iinc 1 1, 3) := by decide +kernel
theorem dX8_findLeans_151 : decode cX8_findLeans 151 = .ok (.goto (-51), 3) := by decide +kernel
theorem dX8_findLeans_154 : decode cX8_findLeans 154 = .ok (.return_, 1) := by decide +kernel
/-- InferResolve$Solver.findLeans()V -/
noncomputable def qc_87 : pr_Co := [(0, (.inl (po_push 0 1))), (1, (.inl (po_istore 1 2))), (2, (.inl (po_iload 1 3))), (3, (.inl (po_push 6 5))), (5, (.inl (po_if2 (fun x y => decide (y ≤ x)) 23 8))), (8, (.inl (po_aload 0 9))), (9, (.inl (po_get 8 2 12))), (12, (.inl (po_iload 1 13))), (13, (.inl (po_push 1 14))), (14, (.inl (po_iload 1 15))), (15, (.inl (po_i2 (fun x y => x <<< (y &&& 31)) 16))), (16, (.inl (po_iast 17))), (17, (.inl (po_iinc 1 1 20))), (20, (.inl (po_goto 2))), (23, (.inl (po_push 0 24))), (24, (.inl (po_istore 1 25))), (25, (.inl (po_iload 1 26))), (26, (.inl (po_aload 0 27))), (27, (.inl (po_get 8 0 30))), (30, (.inl (po_cv 48 0 0 1 33))), (33, (.inl (po_if2 (fun x y => decide (y ≤ x)) 98 36))), (98, (.inl (po_push 0 99))), (99, (.inl (po_istore 1 100))), (100, (.inl (po_iload 1 101))), (101, (.inl (po_push 6 103))), (103, (.inl (po_if2 (fun x y => decide (y ≤ x)) 154 106))), (106, (.inl (po_push 0 107))), (107, (.inl (po_istore 2 108))), (108, (.inl (po_iload 2 109))), (109, (.inl (po_push 6 111))), (111, (.inl (po_if2 (fun x y => decide (y ≤ x)) 148 114))), (114, (.inl (po_aload 0 115))), (115, (.inl (po_get 8 2 118))), (118, (.inl (po_iload 2 119))), (119, (.inl (po_iald 120))), (120, (.inl (po_iload 1 121))), (121, (.inl (po_i2 (fun x y => x >>> (y &&& 31)) 122))), (122, (.inl (po_push 1 123))), (123, (.inl (po_i2 (fun x y => x &&& y) 124))), (124, (.inl (po_if1 (fun x => decide (x = 0)) 142 127))), (127, (.inl (po_aload 0 128))), (128, (.inl (po_get 8 2 131))), (131, (.inl (po_iload 2 132))), (132, (.inl (po_dup2 133))), (133, (.inl (po_iald 134))), (134, (.inl (po_aload 0 135))), (135, (.inl (po_get 8 2 138))), (138, (.inl (po_iload 1 139))), (139, (.inl (po_iald 140))), (140, (.inl (po_i2 (fun x y => x ||| y) 141))), (141, (.inl (po_iast 142))), (142, (.inl (po_iinc 2 1 145))), (145, (.inl (po_goto 108))), (148, (.inl (po_iinc 1 1 151))), (151, (.inl (po_goto 100))), (154, (.inr (re_v)))]
set_option maxRecDepth 100000 in
set_option maxHeartbeats 4000000 in
theorem qs_87 : pr_aS pr_ms m_87 [(0, (.inl (po_push 0 1))), (1, (.inl (po_istore 1 2))), (2, (.inl (po_iload 1 3))), (3, (.inl (po_push 6 5))), (5, (.inl (po_if2 (fun x y => decide (y ≤ x)) 23 8))), (8, (.inl (po_aload 0 9))), (9, (.inl (po_get 8 2 12))), (12, (.inl (po_iload 1 13))), (13, (.inl (po_push 1 14))), (14, (.inl (po_iload 1 15))), (15, (.inl (po_i2 (fun x y => x <<< (y &&& 31)) 16))), (16, (.inl (po_iast 17))), (17, (.inl (po_iinc 1 1 20))), (20, (.inl (po_goto 2))), (23, (.inl (po_push 0 24))), (24, (.inl (po_istore 1 25))), (25, (.inl (po_iload 1 26))), (26, (.inl (po_aload 0 27))), (27, (.inl (po_get 8 0 30))), (30, (.inl (po_cv 48 0 0 1 33))), (33, (.inl (po_if2 (fun x y => decide (y ≤ x)) 98 36))), (98, (.inl (po_push 0 99))), (99, (.inl (po_istore 1 100))), (100, (.inl (po_iload 1 101))), (101, (.inl (po_push 6 103))), (103, (.inl (po_if2 (fun x y => decide (y ≤ x)) 154 106))), (106, (.inl (po_push 0 107))), (107, (.inl (po_istore 2 108))), (108, (.inl (po_iload 2 109))), (109, (.inl (po_push 6 111))), (111, (.inl (po_if2 (fun x y => decide (y ≤ x)) 148 114))), (114, (.inl (po_aload 0 115))), (115, (.inl (po_get 8 2 118))), (118, (.inl (po_iload 2 119))), (119, (.inl (po_iald 120))), (120, (.inl (po_iload 1 121))), (121, (.inl (po_i2 (fun x y => x >>> (y &&& 31)) 122))), (122, (.inl (po_push 1 123))), (123, (.inl (po_i2 (fun x y => x &&& y) 124))), (124, (.inl (po_if1 (fun x => decide (x = 0)) 142 127))), (127, (.inl (po_aload 0 128))), (128, (.inl (po_get 8 2 131))), (131, (.inl (po_iload 2 132))), (132, (.inl (po_dup2 133))), (133, (.inl (po_iald 134))), (134, (.inl (po_aload 0 135))), (135, (.inl (po_get 8 2 138))), (138, (.inl (po_iload 1 139))), (139, (.inl (po_iald 140))), (140, (.inl (po_i2 (fun x y => x ||| y) 141))), (141, (.inl (po_iast 142))), (142, (.inl (po_iinc 2 1 145))), (145, (.inl (po_goto 108))), (148, (.inl (po_iinc 1 1 151))), (151, (.inl (po_goto 100))), (154, (.inr (re_v)))] := pr_aS_c (pr_eI (os_iconst dX8_findLeans_0 (by decide +kernel))) (pr_aS_c (pr_eI (os_istore_n (q := 1) dX8_findLeans_1 (by decide))) (pr_aS_c (pr_eI (os_iload_n (q := 1) dX8_findLeans_2)) (pr_aS_c (pr_eI (os_bipush dX8_findLeans_3 (by decide +kernel))) (pr_aS_c (pr_eI (os_icmp_ge dX8_findLeans_5 (by decide))) (pr_aS_c (pr_eI (os_aload_n (q := 0) dX8_findLeans_8)) (pr_aS_c (pr_eI (os_get (kf := 2) dX8_findLeans_9 cf_8 (by decide) wd_413)) (pr_aS_c (pr_eI (os_iload_n (q := 1) dX8_findLeans_12)) (pr_aS_c (pr_eI (os_iconst dX8_findLeans_13 (by decide +kernel))) (pr_aS_c (pr_eI (os_iload_n (q := 1) dX8_findLeans_14)) (pr_aS_c (pr_eI (os_ishl dX8_findLeans_15)) (pr_aS_c (pr_eI (os_iast dX8_findLeans_16)) (pr_aS_c (pr_eI (os_iinc dX8_findLeans_17 (by decide +kernel) (by decide))) (pr_aS_c (pr_eI (os_goto dX8_findLeans_20 (by decide))) (pr_aS_c (pr_eI (os_iconst dX8_findLeans_23 (by decide +kernel))) (pr_aS_c (pr_eI (os_istore_n (q := 1) dX8_findLeans_24 (by decide))) (pr_aS_c (pr_eI (os_iload_n (q := 1) dX8_findLeans_25)) (pr_aS_c (pr_eI (os_aload_n (q := 0) dX8_findLeans_26)) (pr_aS_c (pr_eI (os_get (kf := 0) dX8_findLeans_27 cf_8 (by decide) wd_420)) (pr_aS_c (pr_eI (os_cv dX8_findLeans_30 (k := 48) rfl rfl cal_48 wd_422 wd_86 wd_85 rfl)) (pr_aS_c (pr_eI (os_icmp_ge dX8_findLeans_33 (by decide))) (pr_aS_c (pr_eI (os_iconst dX8_findLeans_98 (by decide +kernel))) (pr_aS_c (pr_eI (os_istore_n (q := 1) dX8_findLeans_99 (by decide))) (pr_aS_c (pr_eI (os_iload_n (q := 1) dX8_findLeans_100)) (pr_aS_c (pr_eI (os_bipush dX8_findLeans_101 (by decide +kernel))) (pr_aS_c (pr_eI (os_icmp_ge dX8_findLeans_103 (by decide))) (pr_aS_c (pr_eI (os_iconst dX8_findLeans_106 (by decide +kernel))) (pr_aS_c (pr_eI (os_istore_n (q := 2) dX8_findLeans_107 (by decide))) (pr_aS_c (pr_eI (os_iload_n (q := 2) dX8_findLeans_108)) (pr_aS_c (pr_eI (os_bipush dX8_findLeans_109 (by decide +kernel))) (pr_aS_c (pr_eI (os_icmp_ge dX8_findLeans_111 (by decide))) (pr_aS_c (pr_eI (os_aload_n (q := 0) dX8_findLeans_114)) (pr_aS_c (pr_eI (os_get (kf := 2) dX8_findLeans_115 cf_8 (by decide) wd_413)) (pr_aS_c (pr_eI (os_iload_n (q := 2) dX8_findLeans_118)) (pr_aS_c (pr_eI (os_iald dX8_findLeans_119)) (pr_aS_c (pr_eI (os_iload_n (q := 1) dX8_findLeans_120)) (pr_aS_c (pr_eI (os_ishr dX8_findLeans_121)) (pr_aS_c (pr_eI (os_iconst dX8_findLeans_122 (by decide +kernel))) (pr_aS_c (pr_eI (os_iand dX8_findLeans_123)) (pr_aS_c (pr_eI (os_if_eq dX8_findLeans_124 (by decide))) (pr_aS_c (pr_eI (os_aload_n (q := 0) dX8_findLeans_127)) (pr_aS_c (pr_eI (os_get (kf := 2) dX8_findLeans_128 cf_8 (by decide) wd_413)) (pr_aS_c (pr_eI (os_iload_n (q := 2) dX8_findLeans_131)) (pr_aS_c (pr_eI (os_dup2 dX8_findLeans_132)) (pr_aS_c (pr_eI (os_iald dX8_findLeans_133)) (pr_aS_c (pr_eI (os_aload_n (q := 0) dX8_findLeans_134)) (pr_aS_c (pr_eI (os_get (kf := 2) dX8_findLeans_135 cf_8 (by decide) wd_413)) (pr_aS_c (pr_eI (os_iload_n (q := 1) dX8_findLeans_138)) (pr_aS_c (pr_eI (os_iald dX8_findLeans_139)) (pr_aS_c (pr_eI (os_ior dX8_findLeans_140)) (pr_aS_c (pr_eI (os_iast dX8_findLeans_141)) (pr_aS_c (pr_eI (os_iinc dX8_findLeans_142 (by decide +kernel) (by decide))) (pr_aS_c (pr_eI (os_goto dX8_findLeans_145 (by decide))) (pr_aS_c (pr_eI (os_iinc dX8_findLeans_148 (by decide +kernel) (by decide))) (pr_aS_c (pr_eI (os_goto dX8_findLeans_151 (by decide))) (pr_aS_c (pr_eR (rs_v dX8_findLeans_154 rfl)) trivial)))))))))))))))))))))))))))))))))))))))))))))))))))))))
theorem dX9_init_0 : decode cX9_init 0 = .ok (.aload_n 0, 1) := by decide +kernel
theorem dX9_init_1 : decode cX9_init 1 = .ok (.invokespecial 3, 3) := by decide +kernel
theorem dX9_init_4 : decode cX9_init 4 = .ok (.aload_n 0, 1) := by decide +kernel
theorem dX9_init_5 : decode cX9_init 5 = .ok (.aload_n 1, 1) := by decide +kernel
theorem dX9_init_6 : decode cX9_init 6 = .ok (.putfield 9, 3) := by decide +kernel
theorem dX9_init_9 : decode cX9_init 9 = .ok (.return_, 1) := by decide +kernel
/-- InferResolve$Writer.<init>(LInferResolve$Kinds;)V -/
noncomputable def qc_88 : pr_Co := [(0, (.inl (po_aload 0 1))), (1, (.inl (po_oi 4))), (4, (.inl (po_aload 0 5))), (5, (.inl (po_aload 1 6))), (6, (.inl (po_putr 9 0 9))), (9, (.inr (re_v)))]
set_option maxRecDepth 100000 in
set_option maxHeartbeats 4000000 in
theorem qs_88 : pr_aS pr_ms m_88 [(0, (.inl (po_aload 0 1))), (1, (.inl (po_oi 4))), (4, (.inl (po_aload 0 5))), (5, (.inl (po_aload 1 6))), (6, (.inl (po_putr 9 0 9))), (9, (.inr (re_v)))] := pr_aS_c (pr_eI (os_aload_n (q := 0) dX9_init_0)) (pr_aS_c (pr_eI (os_oi dX9_init_1 wd_427 wd_1 wd_2)) (pr_aS_c (pr_eI (os_aload_n (q := 0) dX9_init_4)) (pr_aS_c (pr_eI (os_aload_n (q := 1) dX9_init_5)) (pr_aS_c (pr_eI (os_putrF (kf := 0) dX9_init_6 cf_9 (by decide) wd_428 rfl rfl rfl (Or.inl ⟨_, rfl⟩))) (pr_aS_c (pr_eR (rs_v dX9_init_9 rfl)) trivial)))))
theorem dX11_init_0 : decode cX11_init 0 = .ok (.aload_n 0, 1) := by decide +kernel
theorem dX11_init_1 : decode cX11_init 1 = .ok (.invokespecial 3, 3) := by decide +kernel
theorem dX11_init_4 : decode cX11_init 4 = .ok (.aload_n 0, 1) := by decide +kernel
theorem dX11_init_5 : decode cX11_init 5 = .ok (.sipush 8192, 3) := by decide +kernel
theorem dX11_init_8 : decode cX11_init 8 = .ok (.newarray .boolean, 2) := by decide +kernel
theorem dX11_init_10 : decode cX11_init 10 = .ok (.putfield 9, 3) := by decide +kernel
theorem dX11_init_13 : decode cX11_init 13 = .ok (.aload_n 0, 1) := by decide +kernel
theorem dX11_init_14 : decode cX11_init 14 = .ok (.sipush 8192, 3) := by decide +kernel
theorem dX11_init_17 : decode cX11_init 17 = .ok (.newarray .int, 2) := by decide +kernel
theorem dX11_init_19 : decode cX11_init 19 = .ok (.putfield 15, 3) := by decide +kernel
theorem dX11_init_22 : decode cX11_init 22 = .ok (.aload_n 0, 1) := by decide +kernel
theorem dX11_init_23 : decode cX11_init 23 = .ok (.sipush 8192, 3) := by decide +kernel
theorem dX11_init_26 : decode cX11_init 26 = .ok (.newarray .int, 2) := by decide +kernel
theorem dX11_init_28 : decode cX11_init 28 = .ok (.putfield 19, 3) := by decide +kernel
theorem dX11_init_31 : decode cX11_init 31 = .ok (.return_, 1) := by decide +kernel
/-- InferResolveModel$Bounds.<init>()V -/
noncomputable def qc_89 : pr_Co := [(0, (.inl (po_aload 0 1))), (1, (.inl (po_oi 4))), (4, (.inl (po_aload 0 5))), (5, (.inl (po_push 8192 8))), (8, (.inl (po_newG 2 (fun N => (N, .inl (fun _ => 0))) 10))), (10, (.inl (po_putr 11 1 13))), (13, (.inl (po_aload 0 14))), (14, (.inl (po_push 8192 17))), (17, (.inl (po_newI 19))), (19, (.inl (po_putr 11 2 22))), (22, (.inl (po_aload 0 23))), (23, (.inl (po_push 8192 26))), (26, (.inl (po_newI 28))), (28, (.inl (po_putr 11 3 31))), (31, (.inr (re_v)))]
set_option maxRecDepth 100000 in
set_option maxHeartbeats 4000000 in
theorem qs_89 : pr_aS pr_ms m_89 [(0, (.inl (po_aload 0 1))), (1, (.inl (po_oi 4))), (4, (.inl (po_aload 0 5))), (5, (.inl (po_push 8192 8))), (8, (.inl (po_newG 2 (fun N => (N, .inl (fun _ => 0))) 10))), (10, (.inl (po_putr 11 1 13))), (13, (.inl (po_aload 0 14))), (14, (.inl (po_push 8192 17))), (17, (.inl (po_newI 19))), (19, (.inl (po_putr 11 2 22))), (22, (.inl (po_aload 0 23))), (23, (.inl (po_push 8192 26))), (26, (.inl (po_newI 28))), (28, (.inl (po_putr 11 3 31))), (31, (.inr (re_v)))] := pr_aS_c (pr_eI (os_aload_n (q := 0) dX11_init_0)) (pr_aS_c (pr_eI (os_oi dX11_init_1 wd_429 wd_1 wd_2)) (pr_aS_c (pr_eI (os_aload_n (q := 0) dX11_init_4)) (pr_aS_c (pr_eI (os_sipush dX11_init_5 (by decide +kernel))) (pr_aS_c (pr_eI (os_newG dX11_init_8 rfl (fun _ _ => rfl) (fun _ => rfl) (fun _ _ _ => rfl) wd_145 (by decide))) (pr_aS_c (pr_eI (os_putrF (kf := 1) dX11_init_10 cf_11 (by decide) wd_430 rfl rfl rfl (Or.inr ⟨_, rfl⟩))) (pr_aS_c (pr_eI (os_aload_n (q := 0) dX11_init_13)) (pr_aS_c (pr_eI (os_sipush dX11_init_14 (by decide +kernel))) (pr_aS_c (pr_eI (os_newI dX11_init_17 wd_138)) (pr_aS_c (pr_eI (os_putrF (kf := 2) dX11_init_19 cf_11 (by decide) wd_431 rfl rfl rfl (Or.inr ⟨_, rfl⟩))) (pr_aS_c (pr_eI (os_aload_n (q := 0) dX11_init_22)) (pr_aS_c (pr_eI (os_sipush dX11_init_23 (by decide +kernel))) (pr_aS_c (pr_eI (os_newI dX11_init_26 wd_138)) (pr_aS_c (pr_eI (os_putrF (kf := 3) dX11_init_28 cf_11 (by decide) wd_432 rfl rfl rfl (Or.inr ⟨_, rfl⟩))) (pr_aS_c (pr_eR (rs_v dX11_init_31 rfl)) trivial))))))))))))))
theorem dX11_take_0 : decode cX11_take 0 = .ok (.aload_n 0, 1) := by decide +kernel
theorem dX11_take_1 : decode cX11_take 1 = .ok (.aload_n 1, 1) := by decide +kernel
theorem dX11_take_2 : decode cX11_take 2 = .ok (.getfield 22, 3) := by decide +kernel
theorem dX11_take_5 : decode cX11_take 5 = .ok (.putfield 22, 3) := by decide +kernel
theorem dX11_take_8 : decode cX11_take 8 = .ok (.iconst 0, 1) := by decide +kernel
theorem dX11_take_9 : decode cX11_take 9 = .ok (.istore_n 2, 1) := by decide +kernel
theorem dX11_take_10 : decode cX11_take 10 = .ok (.iload_n 2, 1) := by decide +kernel
theorem dX11_take_11 : decode cX11_take 11 = .ok (.aload_n 0, 1) := by decide +kernel
theorem dX11_take_12 : decode cX11_take 12 = .ok (.getfield 22, 3) := by decide +kernel
theorem dX11_take_15 : decode cX11_take 15 = .ok (.if_icmp .ge 45, 3) := by decide +kernel
theorem dX11_take_60 : decode cX11_take 60 = .ok (.return_, 1) := by decide +kernel
/-- InferResolveModel$Bounds.take(LInferResolveModel$Bounds;)V -/
noncomputable def qc_90 : pr_Co := [(0, (.inl (po_aload 0 1))), (1, (.inl (po_aload 1 2))), (2, (.inl (po_get 11 0 5))), (5, (.inl (po_puti 11 0 8))), (8, (.inl (po_push 0 9))), (9, (.inl (po_istore 2 10))), (10, (.inl (po_iload 2 11))), (11, (.inl (po_aload 0 12))), (12, (.inl (po_get 11 0 15))), (15, (.inl (po_if2 (fun x y => decide (y ≤ x)) 60 18))), (60, (.inr (re_v)))]
set_option maxRecDepth 100000 in
set_option maxHeartbeats 4000000 in
theorem qs_90 : pr_aS pr_ms m_90 [(0, (.inl (po_aload 0 1))), (1, (.inl (po_aload 1 2))), (2, (.inl (po_get 11 0 5))), (5, (.inl (po_puti 11 0 8))), (8, (.inl (po_push 0 9))), (9, (.inl (po_istore 2 10))), (10, (.inl (po_iload 2 11))), (11, (.inl (po_aload 0 12))), (12, (.inl (po_get 11 0 15))), (15, (.inl (po_if2 (fun x y => decide (y ≤ x)) 60 18))), (60, (.inr (re_v)))] := pr_aS_c (pr_eI (os_aload_n (q := 0) dX11_take_0)) (pr_aS_c (pr_eI (os_aload_n (q := 1) dX11_take_1)) (pr_aS_c (pr_eI (os_get (kf := 0) dX11_take_2 cf_11 (by decide) wd_433)) (pr_aS_c (pr_eI (os_puti (kf := 0) dX11_take_5 cf_11 (by decide) wd_433 rfl rfl)) (pr_aS_c (pr_eI (os_iconst dX11_take_8 (by decide +kernel))) (pr_aS_c (pr_eI (os_istore_n (q := 2) dX11_take_9 (by decide))) (pr_aS_c (pr_eI (os_iload_n (q := 2) dX11_take_10)) (pr_aS_c (pr_eI (os_aload_n (q := 0) dX11_take_11)) (pr_aS_c (pr_eI (os_get (kf := 0) dX11_take_12 cf_11 (by decide) wd_433)) (pr_aS_c (pr_eI (os_icmp_ge dX11_take_15 (by decide))) (pr_aS_c (pr_eR (rs_v dX11_take_60 rfl)) trivial))))))))))
theorem dX12_init_0 : decode cX12_init 0 = .ok (.aload_n 0, 1) := by decide +kernel
theorem dX12_init_1 : decode cX12_init 1 = .ok (.invokespecial 3, 3) := by decide +kernel
theorem dX12_init_4 : decode cX12_init 4 = .ok (.aload_n 0, 1) := by decide +kernel
theorem dX12_init_5 : decode cX12_init 5 = .ok (.bipush 20, 2) := by decide +kernel
theorem dX12_init_7 : decode cX12_init 7 = .ok (.newarray .long, 2) := by decide +kernel
theorem dX12_init_9 : decode cX12_init 9 = .ok (.putfield 9, 3) := by decide +kernel
theorem dX12_init_12 : decode cX12_init 12 = .ok (.aload_n 0, 1) := by decide +kernel
theorem dX12_init_13 : decode cX12_init 13 = .ok (.bipush 20, 2) := by decide +kernel
theorem dX12_init_15 : decode cX12_init 15 = .ok (.newarray .int, 2) := by decide +kernel
theorem dX12_init_17 : decode cX12_init 17 = .ok (.putfield 15, 3) := by decide +kernel
theorem dX12_init_20 : decode cX12_init 20 = .ok (.aload_n 0, 1) := by decide +kernel
theorem dX12_init_21 : decode cX12_init 21 = .ok (.bipush 60, 2) := by decide +kernel
theorem dX12_init_23 : decode cX12_init 23 = .ok (.newarray .long, 2) := by decide +kernel
theorem dX12_init_25 : decode cX12_init 25 = .ok (.putfield 19, 3) := by decide +kernel
theorem dX12_init_28 : decode cX12_init 28 = .ok (.aload_n 0, 1) := by decide +kernel
theorem dX12_init_29 : decode cX12_init 29 = .ok (.sipush 400, 3) := by decide +kernel
theorem dX12_init_32 : decode cX12_init 32 = .ok (.newarray .int, 2) := by decide +kernel
theorem dX12_init_34 : decode cX12_init 34 = .ok (.putfield 22, 3) := by decide +kernel
theorem dX12_init_37 : decode cX12_init 37 = .ok (.return_, 1) := by decide +kernel
/-- InferResolveModel$Kinds.<init>()V -/
noncomputable def qc_91 : pr_Co := [(0, (.inl (po_aload 0 1))), (1, (.inl (po_oi 4))), (4, (.inl (po_aload 0 5))), (5, (.inl (po_push 20 7))), (7, (.inl (po_newG 1 (fun N => (N, .inr (.inl (fun _ => 0)))) 9))), (9, (.inl (po_putr 12 1 12))), (12, (.inl (po_aload 0 13))), (13, (.inl (po_push 20 15))), (15, (.inl (po_newI 17))), (17, (.inl (po_putr 12 2 20))), (20, (.inl (po_aload 0 21))), (21, (.inl (po_push 60 23))), (23, (.inl (po_newG 1 (fun N => (N, .inr (.inl (fun _ => 0)))) 25))), (25, (.inl (po_putr 12 3 28))), (28, (.inl (po_aload 0 29))), (29, (.inl (po_push 400 32))), (32, (.inl (po_newI 34))), (34, (.inl (po_putr 12 4 37))), (37, (.inr (re_v)))]
set_option maxRecDepth 100000 in
set_option maxHeartbeats 4000000 in
theorem qs_91 : pr_aS pr_ms m_91 [(0, (.inl (po_aload 0 1))), (1, (.inl (po_oi 4))), (4, (.inl (po_aload 0 5))), (5, (.inl (po_push 20 7))), (7, (.inl (po_newG 1 (fun N => (N, .inr (.inl (fun _ => 0)))) 9))), (9, (.inl (po_putr 12 1 12))), (12, (.inl (po_aload 0 13))), (13, (.inl (po_push 20 15))), (15, (.inl (po_newI 17))), (17, (.inl (po_putr 12 2 20))), (20, (.inl (po_aload 0 21))), (21, (.inl (po_push 60 23))), (23, (.inl (po_newG 1 (fun N => (N, .inr (.inl (fun _ => 0)))) 25))), (25, (.inl (po_putr 12 3 28))), (28, (.inl (po_aload 0 29))), (29, (.inl (po_push 400 32))), (32, (.inl (po_newI 34))), (34, (.inl (po_putr 12 4 37))), (37, (.inr (re_v)))] := pr_aS_c (pr_eI (os_aload_n (q := 0) dX12_init_0)) (pr_aS_c (pr_eI (os_oi dX12_init_1 wd_434 wd_1 wd_2)) (pr_aS_c (pr_eI (os_aload_n (q := 0) dX12_init_4)) (pr_aS_c (pr_eI (os_bipush dX12_init_5 (by decide +kernel))) (pr_aS_c (pr_eI (os_newG dX12_init_7 rfl (fun _ _ => rfl) (fun _ => rfl) (fun _ _ _ => rfl) wd_435 (by decide))) (pr_aS_c (pr_eI (os_putrF (kf := 1) dX12_init_9 cf_12 (by decide) wd_436 rfl rfl rfl (Or.inr ⟨_, rfl⟩))) (pr_aS_c (pr_eI (os_aload_n (q := 0) dX12_init_12)) (pr_aS_c (pr_eI (os_bipush dX12_init_13 (by decide +kernel))) (pr_aS_c (pr_eI (os_newI dX12_init_15 wd_138)) (pr_aS_c (pr_eI (os_putrF (kf := 2) dX12_init_17 cf_12 (by decide) wd_437 rfl rfl rfl (Or.inr ⟨_, rfl⟩))) (pr_aS_c (pr_eI (os_aload_n (q := 0) dX12_init_20)) (pr_aS_c (pr_eI (os_bipush dX12_init_21 (by decide +kernel))) (pr_aS_c (pr_eI (os_newG dX12_init_23 rfl (fun _ _ => rfl) (fun _ => rfl) (fun _ _ _ => rfl) wd_435 (by decide))) (pr_aS_c (pr_eI (os_putrF (kf := 3) dX12_init_25 cf_12 (by decide) wd_438 rfl rfl rfl (Or.inr ⟨_, rfl⟩))) (pr_aS_c (pr_eI (os_aload_n (q := 0) dX12_init_28)) (pr_aS_c (pr_eI (os_sipush dX12_init_29 (by decide +kernel))) (pr_aS_c (pr_eI (os_newI dX12_init_32 wd_138)) (pr_aS_c (pr_eI (os_putrF (kf := 4) dX12_init_34 cf_12 (by decide) wd_439 rfl rfl rfl (Or.inr ⟨_, rfl⟩))) (pr_aS_c (pr_eR (rs_v dX12_init_37 rfl)) trivial))))))))))))))))))
theorem dX12_of_0 : decode cX12_of 0 = .ok (.aload_n 0, 1) := by decide +kernel
theorem dX12_of_1 : decode cX12_of 1 = .ok (.getfield 22, 3) := by decide +kernel
theorem dX12_of_4 : decode cX12_of 4 = .ok (.bipush 20, 2) := by decide +kernel
theorem dX12_of_6 : decode cX12_of 6 = .ok (.iload_n 1, 1) := by decide +kernel
theorem dX12_of_7 : decode cX12_of 7 = .ok (.imul, 1) := by decide +kernel
theorem dX12_of_8 : decode cX12_of 8 = .ok (.iload_n 2, 1) := by decide +kernel
theorem dX12_of_9 : decode cX12_of 9 = .ok (.iadd, 1) := by decide +kernel
theorem dX12_of_10 : decode cX12_of 10 = .ok (.iaload, 1) := by decide +kernel
theorem dX12_of_11 : decode cX12_of 11 = .ok (.ireturn, 1) := by decide +kernel
/-- InferResolveModel$Kinds.of(II)I -/
noncomputable def qc_92 : pr_Co := [(0, (.inl (po_aload 0 1))), (1, (.inl (po_get 12 4 4))), (4, (.inl (po_push 20 6))), (6, (.inl (po_iload 1 7))), (7, (.inl (po_i2 (fun x y => x * y) 8))), (8, (.inl (po_iload 2 9))), (9, (.inl (po_i2 (fun x y => x + y) 10))), (10, (.inl (po_iald 11))), (11, (.inr (re_i)))]
set_option maxRecDepth 100000 in
set_option maxHeartbeats 4000000 in
theorem qs_92 : pr_aS pr_ms m_92 [(0, (.inl (po_aload 0 1))), (1, (.inl (po_get 12 4 4))), (4, (.inl (po_push 20 6))), (6, (.inl (po_iload 1 7))), (7, (.inl (po_i2 (fun x y => x * y) 8))), (8, (.inl (po_iload 2 9))), (9, (.inl (po_i2 (fun x y => x + y) 10))), (10, (.inl (po_iald 11))), (11, (.inr (re_i)))] := pr_aS_c (pr_eI (os_aload_n (q := 0) dX12_of_0)) (pr_aS_c (pr_eI (os_get (kf := 4) dX12_of_1 cf_12 (by decide) wd_439)) (pr_aS_c (pr_eI (os_bipush dX12_of_4 (by decide +kernel))) (pr_aS_c (pr_eI (os_iload_n (q := 1) dX12_of_6)) (pr_aS_c (pr_eI (os_imul dX12_of_7)) (pr_aS_c (pr_eI (os_iload_n (q := 2) dX12_of_8)) (pr_aS_c (pr_eI (os_iadd dX12_of_9)) (pr_aS_c (pr_eI (os_iald dX12_of_10)) (pr_aS_c (pr_eR (rs_i dX12_of_11 rfl)) trivial))))))))
theorem dX12_begin_0 : decode cX12_begin 0 = .ok (.aload_n 0, 1) := by decide +kernel
theorem dX12_begin_1 : decode cX12_begin 1 = .ok (.getfield 9, 3) := by decide +kernel
theorem dX12_begin_4 : decode cX12_begin 4 = .ok (.aload_n 0, 1) := by decide +kernel
theorem dX12_begin_5 : decode cX12_begin 5 = .ok (.getfield 25, 3) := by decide +kernel
theorem dX12_begin_8 : decode cX12_begin 8 = .ok (.lload_n 1, 1) := by decide +kernel
theorem dX12_begin_9 : decode cX12_begin 9 = .ok (.lastore, 1) := by decide +kernel
theorem dX12_begin_10 : decode cX12_begin 10 = .ok (.aload_n 0, 1) := by decide +kernel
theorem dX12_begin_11 : decode cX12_begin 11 = .ok (.getfield 15, 3) := by decide +kernel
theorem dX12_begin_14 : decode cX12_begin 14 = .ok (.aload_n 0, 1) := by decide +kernel
theorem dX12_begin_15 : decode cX12_begin 15 = .ok (.getfield 25, 3) := by decide +kernel
theorem dX12_begin_18 : decode cX12_begin 18 = .ok (.iconst 0, 1) := by decide +kernel
theorem dX12_begin_19 : decode cX12_begin 19 = .ok (.iastore, 1) := by decide +kernel
theorem dX12_begin_20 : decode cX12_begin 20 = .ok (.iconst 0, 1) := by decide +kernel
theorem dX12_begin_21 : decode cX12_begin 21 = .ok (.istore_n 3, 1) := by decide +kernel
theorem dX12_begin_22 : decode cX12_begin 22 = .ok (.iload_n 3, 1) := by decide +kernel
theorem dX12_begin_23 : decode cX12_begin 23 = .ok (.bipush 20, 2) := by decide +kernel
theorem dX12_begin_25 : decode cX12_begin 25 = .ok (.if_icmp .ge 24, 3) := by decide +kernel
theorem dX12_begin_28 : decode cX12_begin 28 = .ok (.aload_n 0, 1) := by decide +kernel
theorem dX12_begin_29 : decode cX12_begin 29 = .ok (.getfield 22, 3) := by decide +kernel
theorem dX12_begin_32 : decode cX12_begin 32 = .ok (.bipush 20, 2) := by decide +kernel
theorem dX12_begin_34 : decode cX12_begin 34 = .ok (.aload_n 0, 1) := by decide +kernel
theorem dX12_begin_35 : decode cX12_begin 35 = .ok (.getfield 25, 3) := by decide +kernel
theorem dX12_begin_38 : decode cX12_begin 38 = .ok (.imul, 1) := by decide +kernel
theorem dX12_begin_39 : decode cX12_begin 39 = .ok (.iload_n 3, 1) := by decide +kernel
theorem dX12_begin_40 : decode cX12_begin 40 = .ok (.iadd, 1) := by decide +kernel
theorem dX12_begin_41 : decode cX12_begin 41 = .ok (.iconst (-1), 1) := by decide +kernel
theorem dX12_begin_42 : decode cX12_begin 42 = .ok (.iastore, 1) := by decide +kernel
theorem dX12_begin_43 : decode cX12_begin 43 = .ok (.iinc 3 1, 3) := by decide +kernel
theorem dX12_begin_46 : decode cX12_begin 46 = .ok (.goto (-24), 3) := by decide +kernel
theorem dX12_begin_49 : decode cX12_begin 49 = .ok (.aload_n 0, 1) := by decide +kernel
theorem dX12_begin_50 : decode cX12_begin 50 = .ok (.dup, 1) := by decide +kernel
theorem dX12_begin_51 : decode cX12_begin 51 = .ok (.getfield 25, 3) := by decide +kernel
theorem dX12_begin_54 : decode cX12_begin 54 = .ok (.iconst 1, 1) := by decide +kernel
theorem dX12_begin_55 : decode cX12_begin 55 = .ok (.iadd, 1) := by decide +kernel
theorem dX12_begin_56 : decode cX12_begin 56 = .ok (.putfield 25, 3) := by decide +kernel
theorem dX12_begin_59 : decode cX12_begin 59 = .ok (.return_, 1) := by decide +kernel
/-- InferResolveModel$Kinds.begin(J)V -/
noncomputable def qc_93 : pr_Co := [(0, (.inl (po_aload 0 1))), (1, (.inl (po_get 12 1 4))), (4, (.inl (po_aload 0 5))), (5, (.inl (po_get 12 0 8))), (8, (.inl (po_lload 1 9))), (9, (.inl (po_last 10))), (10, (.inl (po_aload 0 11))), (11, (.inl (po_get 12 2 14))), (14, (.inl (po_aload 0 15))), (15, (.inl (po_get 12 0 18))), (18, (.inl (po_push 0 19))), (19, (.inl (po_iast 20))), (20, (.inl (po_push 0 21))), (21, (.inl (po_istore 3 22))), (22, (.inl (po_iload 3 23))), (23, (.inl (po_push 20 25))), (25, (.inl (po_if2 (fun x y => decide (y ≤ x)) 49 28))), (28, (.inl (po_aload 0 29))), (29, (.inl (po_get 12 4 32))), (32, (.inl (po_push 20 34))), (34, (.inl (po_aload 0 35))), (35, (.inl (po_get 12 0 38))), (38, (.inl (po_i2 (fun x y => x * y) 39))), (39, (.inl (po_iload 3 40))), (40, (.inl (po_i2 (fun x y => x + y) 41))), (41, (.inl (po_push (-1) 42))), (42, (.inl (po_iast 43))), (43, (.inl (po_iinc 3 1 46))), (46, (.inl (po_goto 22))), (49, (.inl (po_aload 0 50))), (50, (.inl (po_dup 51))), (51, (.inl (po_get 12 0 54))), (54, (.inl (po_push 1 55))), (55, (.inl (po_i2 (fun x y => x + y) 56))), (56, (.inl (po_puti 12 0 59))), (59, (.inr (re_v)))]
set_option maxRecDepth 100000 in
set_option maxHeartbeats 4000000 in
theorem qs_93 : pr_aS pr_ms m_93 [(0, (.inl (po_aload 0 1))), (1, (.inl (po_get 12 1 4))), (4, (.inl (po_aload 0 5))), (5, (.inl (po_get 12 0 8))), (8, (.inl (po_lload 1 9))), (9, (.inl (po_last 10))), (10, (.inl (po_aload 0 11))), (11, (.inl (po_get 12 2 14))), (14, (.inl (po_aload 0 15))), (15, (.inl (po_get 12 0 18))), (18, (.inl (po_push 0 19))), (19, (.inl (po_iast 20))), (20, (.inl (po_push 0 21))), (21, (.inl (po_istore 3 22))), (22, (.inl (po_iload 3 23))), (23, (.inl (po_push 20 25))), (25, (.inl (po_if2 (fun x y => decide (y ≤ x)) 49 28))), (28, (.inl (po_aload 0 29))), (29, (.inl (po_get 12 4 32))), (32, (.inl (po_push 20 34))), (34, (.inl (po_aload 0 35))), (35, (.inl (po_get 12 0 38))), (38, (.inl (po_i2 (fun x y => x * y) 39))), (39, (.inl (po_iload 3 40))), (40, (.inl (po_i2 (fun x y => x + y) 41))), (41, (.inl (po_push (-1) 42))), (42, (.inl (po_iast 43))), (43, (.inl (po_iinc 3 1 46))), (46, (.inl (po_goto 22))), (49, (.inl (po_aload 0 50))), (50, (.inl (po_dup 51))), (51, (.inl (po_get 12 0 54))), (54, (.inl (po_push 1 55))), (55, (.inl (po_i2 (fun x y => x + y) 56))), (56, (.inl (po_puti 12 0 59))), (59, (.inr (re_v)))] := pr_aS_c (pr_eI (os_aload_n (q := 0) dX12_begin_0)) (pr_aS_c (pr_eI (os_get (kf := 1) dX12_begin_1 cf_12 (by decide) wd_436)) (pr_aS_c (pr_eI (os_aload_n (q := 0) dX12_begin_4)) (pr_aS_c (pr_eI (os_get (kf := 0) dX12_begin_5 cf_12 (by decide) wd_440)) (pr_aS_c (pr_eI (os_lload_n (q := 1) dX12_begin_8)) (pr_aS_c (pr_eI (os_last dX12_begin_9)) (pr_aS_c (pr_eI (os_aload_n (q := 0) dX12_begin_10)) (pr_aS_c (pr_eI (os_get (kf := 2) dX12_begin_11 cf_12 (by decide) wd_437)) (pr_aS_c (pr_eI (os_aload_n (q := 0) dX12_begin_14)) (pr_aS_c (pr_eI (os_get (kf := 0) dX12_begin_15 cf_12 (by decide) wd_440)) (pr_aS_c (pr_eI (os_iconst dX12_begin_18 (by decide +kernel))) (pr_aS_c (pr_eI (os_iast dX12_begin_19)) (pr_aS_c (pr_eI (os_iconst dX12_begin_20 (by decide +kernel))) (pr_aS_c (pr_eI (os_istore_n (q := 3) dX12_begin_21 (by decide))) (pr_aS_c (pr_eI (os_iload_n (q := 3) dX12_begin_22)) (pr_aS_c (pr_eI (os_bipush dX12_begin_23 (by decide +kernel))) (pr_aS_c (pr_eI (os_icmp_ge dX12_begin_25 (by decide))) (pr_aS_c (pr_eI (os_aload_n (q := 0) dX12_begin_28)) (pr_aS_c (pr_eI (os_get (kf := 4) dX12_begin_29 cf_12 (by decide) wd_439)) (pr_aS_c (pr_eI (os_bipush dX12_begin_32 (by decide +kernel))) (pr_aS_c (pr_eI (os_aload_n (q := 0) dX12_begin_34)) (pr_aS_c (pr_eI (os_get (kf := 0) dX12_begin_35 cf_12 (by decide) wd_440)) (pr_aS_c (pr_eI (os_imul dX12_begin_38)) (pr_aS_c (pr_eI (os_iload_n (q := 3) dX12_begin_39)) (pr_aS_c (pr_eI (os_iadd dX12_begin_40)) (pr_aS_c (pr_eI (os_iconst dX12_begin_41 (by decide +kernel))) (pr_aS_c (pr_eI (os_iast dX12_begin_42)) (pr_aS_c (pr_eI (os_iinc dX12_begin_43 (by decide +kernel) (by decide))) (pr_aS_c (pr_eI (os_goto dX12_begin_46 (by decide))) (pr_aS_c (pr_eI (os_aload_n (q := 0) dX12_begin_49)) (pr_aS_c (pr_eI (os_dup dX12_begin_50)) (pr_aS_c (pr_eI (os_get (kf := 0) dX12_begin_51 cf_12 (by decide) wd_440)) (pr_aS_c (pr_eI (os_iconst dX12_begin_54 (by decide +kernel))) (pr_aS_c (pr_eI (os_iadd dX12_begin_55)) (pr_aS_c (pr_eI (os_puti (kf := 0) dX12_begin_56 cf_12 (by decide) wd_440 rfl rfl)) (pr_aS_c (pr_eR (rs_v dX12_begin_59 rfl)) trivial)))))))))))))))))))))))))))))))))))
theorem dX13_init_0 : decode cX13_init 0 = .ok (.aload_n 0, 1) := by decide +kernel
theorem dX13_init_1 : decode cX13_init 1 = .ok (.invokespecial 3, 3) := by decide +kernel
theorem dX13_init_4 : decode cX13_init 4 = .ok (.aload_n 0, 1) := by decide +kernel
theorem dX13_init_5 : decode cX13_init 5 = .ok (.ldc 9, 2) := by decide +kernel
theorem dX13_init_7 : decode cX13_init 7 = .ok (.newarray .int, 2) := by decide +kernel
theorem dX13_init_9 : decode cX13_init 9 = .ok (.putfield 10, 3) := by decide +kernel
theorem dX13_init_12 : decode cX13_init 12 = .ok (.aload_n 0, 1) := by decide +kernel
theorem dX13_init_13 : decode cX13_init 13 = .ok (.ldc 9, 2) := by decide +kernel
theorem dX13_init_15 : decode cX13_init 15 = .ok (.newarray .int, 2) := by decide +kernel
theorem dX13_init_17 : decode cX13_init 17 = .ok (.putfield 16, 3) := by decide +kernel
theorem dX13_init_20 : decode cX13_init 20 = .ok (.aload_n 0, 1) := by decide +kernel
theorem dX13_init_21 : decode cX13_init 21 = .ok (.ldc 9, 2) := by decide +kernel
theorem dX13_init_23 : decode cX13_init 23 = .ok (.newarray .int, 2) := by decide +kernel
theorem dX13_init_25 : decode cX13_init 25 = .ok (.putfield 19, 3) := by decide +kernel
theorem dX13_init_28 : decode cX13_init 28 = .ok (.aload_n 0, 1) := by decide +kernel
theorem dX13_init_29 : decode cX13_init 29 = .ok (.ldc 9, 2) := by decide +kernel
theorem dX13_init_31 : decode cX13_init 31 = .ok (.newarray .int, 2) := by decide +kernel
theorem dX13_init_33 : decode cX13_init 33 = .ok (.putfield 22, 3) := by decide +kernel
theorem dX13_init_36 : decode cX13_init 36 = .ok (.aload_n 0, 1) := by decide +kernel
theorem dX13_init_37 : decode cX13_init 37 = .ok (.ldc 9, 2) := by decide +kernel
theorem dX13_init_39 : decode cX13_init 39 = .ok (.newarray .int, 2) := by decide +kernel
theorem dX13_init_41 : decode cX13_init 41 = .ok (.putfield 25, 3) := by decide +kernel
theorem dX13_init_44 : decode cX13_init 44 = .ok (.aload_n 0, 1) := by decide +kernel
theorem dX13_init_45 : decode cX13_init 45 = .ok (.ldc 9, 2) := by decide +kernel
theorem dX13_init_47 : decode cX13_init 47 = .ok (.newarray .int, 2) := by decide +kernel
theorem dX13_init_49 : decode cX13_init 49 = .ok (.putfield 28, 3) := by decide +kernel
theorem dX13_init_52 : decode cX13_init 52 = .ok (.aload_n 0, 1) := by decide +kernel
theorem dX13_init_53 : decode cX13_init 53 = .ok (.ldc 9, 2) := by decide +kernel
theorem dX13_init_55 : decode cX13_init 55 = .ok (.newarray .int, 2) := by decide +kernel
theorem dX13_init_57 : decode cX13_init 57 = .ok (.putfield 31, 3) := by decide +kernel
theorem dX13_init_60 : decode cX13_init 60 = .ok (.aload_n 0, 1) := by decide +kernel
theorem dX13_init_61 : decode cX13_init 61 = .ok (.ldc 34, 2) := by decide +kernel
theorem dX13_init_63 : decode cX13_init 63 = .ok (.newarray .int, 2) := by decide +kernel
theorem dX13_init_65 : decode cX13_init 65 = .ok (.putfield 35, 3) := by decide +kernel
theorem dX13_init_68 : decode cX13_init 68 = .ok (.aload_n 0, 1) := by decide +kernel
theorem dX13_init_69 : decode cX13_init 69 = .ok (.sipush 16384, 3) := by decide +kernel
theorem dX13_init_72 : decode cX13_init 72 = .ok (.newarray .int, 2) := by decide +kernel
theorem dX13_init_74 : decode cX13_init 74 = .ok (.putfield 38, 3) := by decide +kernel
theorem dX13_init_77 : decode cX13_init 77 = .ok (.aload_n 0, 1) := by decide +kernel
theorem dX13_init_78 : decode cX13_init 78 = .ok (.ldc 9, 2) := by decide +kernel
theorem dX13_init_80 : decode cX13_init 80 = .ok (.newarray .int, 2) := by decide +kernel
theorem dX13_init_82 : decode cX13_init 82 = .ok (.putfield 41, 3) := by decide +kernel
theorem dX13_init_85 : decode cX13_init 85 = .ok (.return_, 1) := by decide +kernel
/-- InferResolveModel$Store.<init>()V -/
noncomputable def qc_94 : pr_Co := [(0, (.inl (po_aload 0 1))), (1, (.inl (po_oi 4))), (4, (.inl (po_aload 0 5))), (5, (.inl (po_push 40000 7))), (7, (.inl (po_newI 9))), (9, (.inl (po_putr 13 2 12))), (12, (.inl (po_aload 0 13))), (13, (.inl (po_push 40000 15))), (15, (.inl (po_newI 17))), (17, (.inl (po_putr 13 3 20))), (20, (.inl (po_aload 0 21))), (21, (.inl (po_push 40000 23))), (23, (.inl (po_newI 25))), (25, (.inl (po_putr 13 4 28))), (28, (.inl (po_aload 0 29))), (29, (.inl (po_push 40000 31))), (31, (.inl (po_newI 33))), (33, (.inl (po_putr 13 5 36))), (36, (.inl (po_aload 0 37))), (37, (.inl (po_push 40000 39))), (39, (.inl (po_newI 41))), (41, (.inl (po_putr 13 6 44))), (44, (.inl (po_aload 0 45))), (45, (.inl (po_push 40000 47))), (47, (.inl (po_newI 49))), (49, (.inl (po_putr 13 7 52))), (52, (.inl (po_aload 0 53))), (53, (.inl (po_push 40000 55))), (55, (.inl (po_newI 57))), (57, (.inl (po_putr 13 8 60))), (60, (.inl (po_aload 0 61))), (61, (.inl (po_push 80000 63))), (63, (.inl (po_newI 65))), (65, (.inl (po_putr 13 9 68))), (68, (.inl (po_aload 0 69))), (69, (.inl (po_push 16384 72))), (72, (.inl (po_newI 74))), (74, (.inl (po_putr 13 10 77))), (77, (.inl (po_aload 0 78))), (78, (.inl (po_push 40000 80))), (80, (.inl (po_newI 82))), (82, (.inl (po_putr 13 11 85))), (85, (.inr (re_v)))]
set_option maxRecDepth 100000 in
set_option maxHeartbeats 4000000 in
theorem qs_94 : pr_aS pr_ms m_94 [(0, (.inl (po_aload 0 1))), (1, (.inl (po_oi 4))), (4, (.inl (po_aload 0 5))), (5, (.inl (po_push 40000 7))), (7, (.inl (po_newI 9))), (9, (.inl (po_putr 13 2 12))), (12, (.inl (po_aload 0 13))), (13, (.inl (po_push 40000 15))), (15, (.inl (po_newI 17))), (17, (.inl (po_putr 13 3 20))), (20, (.inl (po_aload 0 21))), (21, (.inl (po_push 40000 23))), (23, (.inl (po_newI 25))), (25, (.inl (po_putr 13 4 28))), (28, (.inl (po_aload 0 29))), (29, (.inl (po_push 40000 31))), (31, (.inl (po_newI 33))), (33, (.inl (po_putr 13 5 36))), (36, (.inl (po_aload 0 37))), (37, (.inl (po_push 40000 39))), (39, (.inl (po_newI 41))), (41, (.inl (po_putr 13 6 44))), (44, (.inl (po_aload 0 45))), (45, (.inl (po_push 40000 47))), (47, (.inl (po_newI 49))), (49, (.inl (po_putr 13 7 52))), (52, (.inl (po_aload 0 53))), (53, (.inl (po_push 40000 55))), (55, (.inl (po_newI 57))), (57, (.inl (po_putr 13 8 60))), (60, (.inl (po_aload 0 61))), (61, (.inl (po_push 80000 63))), (63, (.inl (po_newI 65))), (65, (.inl (po_putr 13 9 68))), (68, (.inl (po_aload 0 69))), (69, (.inl (po_push 16384 72))), (72, (.inl (po_newI 74))), (74, (.inl (po_putr 13 10 77))), (77, (.inl (po_aload 0 78))), (78, (.inl (po_push 40000 80))), (80, (.inl (po_newI 82))), (82, (.inl (po_putr 13 11 85))), (85, (.inr (re_v)))] := pr_aS_c (pr_eI (os_aload_n (q := 0) dX13_init_0)) (pr_aS_c (pr_eI (os_oi dX13_init_1 wd_441 wd_1 wd_2)) (pr_aS_c (pr_eI (os_aload_n (q := 0) dX13_init_4)) (pr_aS_c (pr_eI (os_ldc dX13_init_5 wd_442)) (pr_aS_c (pr_eI (os_newI dX13_init_7 wd_138)) (pr_aS_c (pr_eI (os_putrF (kf := 2) dX13_init_9 cf_13 (by decide) wd_443 rfl rfl rfl (Or.inr ⟨_, rfl⟩))) (pr_aS_c (pr_eI (os_aload_n (q := 0) dX13_init_12)) (pr_aS_c (pr_eI (os_ldc dX13_init_13 wd_442)) (pr_aS_c (pr_eI (os_newI dX13_init_15 wd_138)) (pr_aS_c (pr_eI (os_putrF (kf := 3) dX13_init_17 cf_13 (by decide) wd_444 rfl rfl rfl (Or.inr ⟨_, rfl⟩))) (pr_aS_c (pr_eI (os_aload_n (q := 0) dX13_init_20)) (pr_aS_c (pr_eI (os_ldc dX13_init_21 wd_442)) (pr_aS_c (pr_eI (os_newI dX13_init_23 wd_138)) (pr_aS_c (pr_eI (os_putrF (kf := 4) dX13_init_25 cf_13 (by decide) wd_445 rfl rfl rfl (Or.inr ⟨_, rfl⟩))) (pr_aS_c (pr_eI (os_aload_n (q := 0) dX13_init_28)) (pr_aS_c (pr_eI (os_ldc dX13_init_29 wd_442)) (pr_aS_c (pr_eI (os_newI dX13_init_31 wd_138)) (pr_aS_c (pr_eI (os_putrF (kf := 5) dX13_init_33 cf_13 (by decide) wd_446 rfl rfl rfl (Or.inr ⟨_, rfl⟩))) (pr_aS_c (pr_eI (os_aload_n (q := 0) dX13_init_36)) (pr_aS_c (pr_eI (os_ldc dX13_init_37 wd_442)) (pr_aS_c (pr_eI (os_newI dX13_init_39 wd_138)) (pr_aS_c (pr_eI (os_putrF (kf := 6) dX13_init_41 cf_13 (by decide) wd_447 rfl rfl rfl (Or.inr ⟨_, rfl⟩))) (pr_aS_c (pr_eI (os_aload_n (q := 0) dX13_init_44)) (pr_aS_c (pr_eI (os_ldc dX13_init_45 wd_442)) (pr_aS_c (pr_eI (os_newI dX13_init_47 wd_138)) (pr_aS_c (pr_eI (os_putrF (kf := 7) dX13_init_49 cf_13 (by decide) wd_448 rfl rfl rfl (Or.inr ⟨_, rfl⟩))) (pr_aS_c (pr_eI (os_aload_n (q := 0) dX13_init_52)) (pr_aS_c (pr_eI (os_ldc dX13_init_53 wd_442)) (pr_aS_c (pr_eI (os_newI dX13_init_55 wd_138)) (pr_aS_c (pr_eI (os_putrF (kf := 8) dX13_init_57 cf_13 (by decide) wd_449 rfl rfl rfl (Or.inr ⟨_, rfl⟩))) (pr_aS_c (pr_eI (os_aload_n (q := 0) dX13_init_60)) (pr_aS_c (pr_eI (os_ldc dX13_init_61 wd_450)) (pr_aS_c (pr_eI (os_newI dX13_init_63 wd_138)) (pr_aS_c (pr_eI (os_putrF (kf := 9) dX13_init_65 cf_13 (by decide) wd_451 rfl rfl rfl (Or.inr ⟨_, rfl⟩))) (pr_aS_c (pr_eI (os_aload_n (q := 0) dX13_init_68)) (pr_aS_c (pr_eI (os_sipush dX13_init_69 (by decide +kernel))) (pr_aS_c (pr_eI (os_newI dX13_init_72 wd_138)) (pr_aS_c (pr_eI (os_putrF (kf := 10) dX13_init_74 cf_13 (by decide) wd_452 rfl rfl rfl (Or.inr ⟨_, rfl⟩))) (pr_aS_c (pr_eI (os_aload_n (q := 0) dX13_init_77)) (pr_aS_c (pr_eI (os_ldc dX13_init_78 wd_442)) (pr_aS_c (pr_eI (os_newI dX13_init_80 wd_138)) (pr_aS_c (pr_eI (os_putrF (kf := 11) dX13_init_82 cf_13 (by decide) wd_453 rfl rfl rfl (Or.inr ⟨_, rfl⟩))) (pr_aS_c (pr_eR (rs_v dX13_init_85 rfl)) trivial))))))))))))))))))))))))))))))))))))))))))
theorem dX13_clear_0 : decode cX13_clear 0 = .ok (.aload_n 0, 1) := by decide +kernel
theorem dX13_clear_1 : decode cX13_clear 1 = .ok (.iconst 0, 1) := by decide +kernel
theorem dX13_clear_2 : decode cX13_clear 2 = .ok (.putfield 44, 3) := by decide +kernel
theorem dX13_clear_5 : decode cX13_clear 5 = .ok (.aload_n 0, 1) := by decide +kernel
theorem dX13_clear_6 : decode cX13_clear 6 = .ok (.iconst 0, 1) := by decide +kernel
theorem dX13_clear_7 : decode cX13_clear 7 = .ok (.putfield 48, 3) := by decide +kernel
theorem dX13_clear_10 : decode cX13_clear 10 = .ok (.iconst 0, 1) := by decide +kernel
theorem dX13_clear_11 : decode cX13_clear 11 = .ok (.istore_n 1, 1) := by decide +kernel
theorem dX13_clear_32 : decode cX13_clear 32 = .ok (.iconst 0, 1) := by decide +kernel
theorem dX13_clear_33 : decode cX13_clear 33 = .ok (.istore_n 1, 1) := by decide +kernel
theorem dX13_clear_34 : decode cX13_clear 34 = .ok (.iload_n 1, 1) := by decide +kernel
theorem dX13_clear_35 : decode cX13_clear 35 = .ok (.bipush 6, 2) := by decide +kernel
theorem dX13_clear_37 : decode cX13_clear 37 = .ok (.if_icmp .ge 22, 3) := by decide +kernel
theorem dX13_clear_40 : decode cX13_clear 40 = .ok (.aload_n 0, 1) := by decide +kernel
theorem dX13_clear_41 : decode cX13_clear 41 = .ok (.iconst 0, 1) := by decide +kernel
theorem dX13_clear_42 : decode cX13_clear 42 = .ok (.iload_n 1, 1) := by decide +kernel
theorem dX13_clear_43 : decode cX13_clear 43 = .ok (.aload_n 0, 1) := by decide +kernel
theorem dX13_clear_44 : decode cX13_clear 44 = .ok (.getfield 38, 3) := by decide +kernel
theorem dX13_clear_47 : decode cX13_clear 47 = .ok (.iconst 0, 1) := by decide +kernel
theorem dX13_clear_48 : decode cX13_clear 48 = .ok (.iconst 0, 1) := by decide +kernel
theorem dX13_clear_49 : decode cX13_clear 49 = .ok (.invokevirtual 51, 3) := by decide +kernel
theorem dX13_clear_52 : decode cX13_clear 52 = .ok (.istore_n 2, 1) := by decide +kernel
theorem dX13_clear_53 : decode cX13_clear 53 = .ok (.iinc 1 1, 3) := by decide +kernel
theorem dX13_clear_56 : decode cX13_clear 56 = .ok (.goto (-22), 3) := by decide +kernel
theorem dX13_clear_59 : decode cX13_clear 59 = .ok (.iconst 0, 1) := by decide +kernel
theorem dX13_clear_60 : decode cX13_clear 60 = .ok (.istore_n 1, 1) := by decide +kernel
theorem dX13_clear_61 : decode cX13_clear 61 = .ok (.iload_n 1, 1) := by decide +kernel
theorem dX13_clear_62 : decode cX13_clear 62 = .ok (.iconst 3, 1) := by decide +kernel
theorem dX13_clear_63 : decode cX13_clear 63 = .ok (.if_icmp .ge 22, 3) := by decide +kernel
theorem dX13_clear_66 : decode cX13_clear 66 = .ok (.aload_n 0, 1) := by decide +kernel
theorem dX13_clear_67 : decode cX13_clear 67 = .ok (.iconst 1, 1) := by decide +kernel
theorem dX13_clear_68 : decode cX13_clear 68 = .ok (.iload_n 1, 1) := by decide +kernel
theorem dX13_clear_69 : decode cX13_clear 69 = .ok (.aload_n 0, 1) := by decide +kernel
theorem dX13_clear_70 : decode cX13_clear 70 = .ok (.getfield 38, 3) := by decide +kernel
theorem dX13_clear_73 : decode cX13_clear 73 = .ok (.iconst 0, 1) := by decide +kernel
theorem dX13_clear_74 : decode cX13_clear 74 = .ok (.iconst 0, 1) := by decide +kernel
theorem dX13_clear_75 : decode cX13_clear 75 = .ok (.invokevirtual 51, 3) := by decide +kernel
theorem dX13_clear_78 : decode cX13_clear 78 = .ok (.istore_n 2, 1) := by decide +kernel
theorem dX13_clear_79 : decode cX13_clear 79 = .ok (.iinc 1 1, 3) := by decide +kernel
theorem dX13_clear_82 : decode cX13_clear 82 = .ok (.goto (-21), 3) := by decide +kernel
theorem dX13_clear_85 : decode cX13_clear 85 = .ok (.return_, 1) := by decide +kernel
/-- InferResolveModel$Store.clear()V -/
noncomputable def qc_95 : pr_Co := [(0, (.inl (po_aload 0 1))), (1, (.inl (po_push 0 2))), (2, (.inl (po_puti 13 0 5))), (5, (.inl (po_aload 0 6))), (6, (.inl (po_push 0 7))), (7, (.inl (po_puti 13 1 10))), (10, (.inl (po_push 0 11))), (11, (.inl (po_istore 1 12))), (12, (.inl (po_clear 32))), (32, (.inl (po_push 0 33))), (33, (.inl (po_istore 1 34))), (34, (.inl (po_iload 1 35))), (35, (.inl (po_push 6 37))), (37, (.inl (po_if2 (fun x y => decide (y ≤ x)) 59 40))), (40, (.inl (po_aload 0 41))), (41, (.inl (po_push 0 42))), (42, (.inl (po_iload 1 43))), (43, (.inl (po_aload 0 44))), (44, (.inl (po_get 13 10 47))), (47, (.inl (po_push 0 48))), (48, (.inl (po_push 0 49))), (49, (.inl (po_cv 96 5 13 9 52))), (52, (.inl (po_istore 2 53))), (53, (.inl (po_iinc 1 1 56))), (56, (.inl (po_goto 34))), (59, (.inl (po_push 0 60))), (60, (.inl (po_istore 1 61))), (61, (.inl (po_iload 1 62))), (62, (.inl (po_push 3 63))), (63, (.inl (po_if2 (fun x y => decide (y ≤ x)) 85 66))), (66, (.inl (po_aload 0 67))), (67, (.inl (po_push 1 68))), (68, (.inl (po_iload 1 69))), (69, (.inl (po_aload 0 70))), (70, (.inl (po_get 13 10 73))), (73, (.inl (po_push 0 74))), (74, (.inl (po_push 0 75))), (75, (.inl (po_cv 96 5 13 9 78))), (78, (.inl (po_istore 2 79))), (79, (.inl (po_iinc 1 1 82))), (82, (.inl (po_goto 61))), (85, (.inr (re_v)))]
set_option maxRecDepth 100000 in
set_option maxHeartbeats 4000000 in
theorem qs_95 : pr_aS pr_ms m_95 [(0, (.inl (po_aload 0 1))), (1, (.inl (po_push 0 2))), (2, (.inl (po_puti 13 0 5))), (5, (.inl (po_aload 0 6))), (6, (.inl (po_push 0 7))), (7, (.inl (po_puti 13 1 10))), (10, (.inl (po_push 0 11))), (11, (.inl (po_istore 1 12))), (12, (.inl (po_clear 32))), (32, (.inl (po_push 0 33))), (33, (.inl (po_istore 1 34))), (34, (.inl (po_iload 1 35))), (35, (.inl (po_push 6 37))), (37, (.inl (po_if2 (fun x y => decide (y ≤ x)) 59 40))), (40, (.inl (po_aload 0 41))), (41, (.inl (po_push 0 42))), (42, (.inl (po_iload 1 43))), (43, (.inl (po_aload 0 44))), (44, (.inl (po_get 13 10 47))), (47, (.inl (po_push 0 48))), (48, (.inl (po_push 0 49))), (49, (.inl (po_cv 96 5 13 9 52))), (52, (.inl (po_istore 2 53))), (53, (.inl (po_iinc 1 1 56))), (56, (.inl (po_goto 34))), (59, (.inl (po_push 0 60))), (60, (.inl (po_istore 1 61))), (61, (.inl (po_iload 1 62))), (62, (.inl (po_push 3 63))), (63, (.inl (po_if2 (fun x y => decide (y ≤ x)) 85 66))), (66, (.inl (po_aload 0 67))), (67, (.inl (po_push 1 68))), (68, (.inl (po_iload 1 69))), (69, (.inl (po_aload 0 70))), (70, (.inl (po_get 13 10 73))), (73, (.inl (po_push 0 74))), (74, (.inl (po_push 0 75))), (75, (.inl (po_cv 96 5 13 9 78))), (78, (.inl (po_istore 2 79))), (79, (.inl (po_iinc 1 1 82))), (82, (.inl (po_goto 61))), (85, (.inr (re_v)))] := pr_aS_c (pr_eI (os_aload_n (q := 0) dX13_clear_0)) (pr_aS_c (pr_eI (os_iconst dX13_clear_1 (by decide +kernel))) (pr_aS_c (pr_eI (os_puti (kf := 0) dX13_clear_2 cf_13 (by decide) wd_454 rfl rfl)) (pr_aS_c (pr_eI (os_aload_n (q := 0) dX13_clear_5)) (pr_aS_c (pr_eI (os_iconst dX13_clear_6 (by decide +kernel))) (pr_aS_c (pr_eI (os_puti (kf := 1) dX13_clear_7 cf_13 (by decide) wd_455 rfl rfl)) (pr_aS_c (pr_eI (os_iconst dX13_clear_10 (by decide +kernel))) (pr_aS_c (pr_eI (os_istore_n (q := 1) dX13_clear_11 (by decide))) (pr_aS_c (pr_eI (os_clear)) (pr_aS_c (pr_eI (os_iconst dX13_clear_32 (by decide +kernel))) (pr_aS_c (pr_eI (os_istore_n (q := 1) dX13_clear_33 (by decide))) (pr_aS_c (pr_eI (os_iload_n (q := 1) dX13_clear_34)) (pr_aS_c (pr_eI (os_bipush dX13_clear_35 (by decide +kernel))) (pr_aS_c (pr_eI (os_icmp_ge dX13_clear_37 (by decide))) (pr_aS_c (pr_eI (os_aload_n (q := 0) dX13_clear_40)) (pr_aS_c (pr_eI (os_iconst dX13_clear_41 (by decide +kernel))) (pr_aS_c (pr_eI (os_iload_n (q := 1) dX13_clear_42)) (pr_aS_c (pr_eI (os_aload_n (q := 0) dX13_clear_43)) (pr_aS_c (pr_eI (os_get (kf := 10) dX13_clear_44 cf_13 (by decide) wd_452)) (pr_aS_c (pr_eI (os_iconst dX13_clear_47 (by decide +kernel))) (pr_aS_c (pr_eI (os_iconst dX13_clear_48 (by decide +kernel))) (pr_aS_c (pr_eI (os_cv dX13_clear_49 (k := 96) rfl rfl cal_96 wd_456 wd_130 wd_129 rfl)) (pr_aS_c (pr_eI (os_istore_n (q := 2) dX13_clear_52 (by decide))) (pr_aS_c (pr_eI (os_iinc dX13_clear_53 (by decide +kernel) (by decide))) (pr_aS_c (pr_eI (os_goto dX13_clear_56 (by decide))) (pr_aS_c (pr_eI (os_iconst dX13_clear_59 (by decide +kernel))) (pr_aS_c (pr_eI (os_istore_n (q := 1) dX13_clear_60 (by decide))) (pr_aS_c (pr_eI (os_iload_n (q := 1) dX13_clear_61)) (pr_aS_c (pr_eI (os_iconst dX13_clear_62 (by decide +kernel))) (pr_aS_c (pr_eI (os_icmp_ge dX13_clear_63 (by decide))) (pr_aS_c (pr_eI (os_aload_n (q := 0) dX13_clear_66)) (pr_aS_c (pr_eI (os_iconst dX13_clear_67 (by decide +kernel))) (pr_aS_c (pr_eI (os_iload_n (q := 1) dX13_clear_68)) (pr_aS_c (pr_eI (os_aload_n (q := 0) dX13_clear_69)) (pr_aS_c (pr_eI (os_get (kf := 10) dX13_clear_70 cf_13 (by decide) wd_452)) (pr_aS_c (pr_eI (os_iconst dX13_clear_73 (by decide +kernel))) (pr_aS_c (pr_eI (os_iconst dX13_clear_74 (by decide +kernel))) (pr_aS_c (pr_eI (os_cv dX13_clear_75 (k := 96) rfl rfl cal_96 wd_456 wd_130 wd_129 rfl)) (pr_aS_c (pr_eI (os_istore_n (q := 2) dX13_clear_78 (by decide))) (pr_aS_c (pr_eI (os_iinc dX13_clear_79 (by decide +kernel) (by decide))) (pr_aS_c (pr_eI (os_goto dX13_clear_82 (by decide))) (pr_aS_c (pr_eR (rs_v dX13_clear_85 rfl)) trivial)))))))))))))))))))))))))))))))))))))))))
