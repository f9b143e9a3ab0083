/-! code tables (laid by a program) -/
theorem dX14_one_0 : decode cX14_one 0 = .ok (.aload_n 0, 1) := by decide +kernel
theorem dX14_one_1 : decode cX14_one 1 = .ok (.getfield 92, 3) := by decide +kernel
theorem dX14_one_4 : decode cX14_one 4 = .ok (.aload_n 0, 1) := by decide +kernel
theorem dX14_one_5 : decode cX14_one 5 = .ok (.getfield 406, 3) := by decide +kernel
theorem dX14_one_8 : decode cX14_one 8 = .ok (.iload_n 1, 1) := by decide +kernel
theorem dX14_one_9 : decode cX14_one 9 = .ok (.iastore, 1) := by decide +kernel
theorem dX14_one_10 : decode cX14_one 10 = .ok (.aload_n 0, 1) := by decide +kernel
theorem dX14_one_11 : decode cX14_one 11 = .ok (.dup, 1) := by decide +kernel
theorem dX14_one_12 : decode cX14_one 12 = .ok (.getfield 406, 3) := by decide +kernel
theorem dX14_one_15 : decode cX14_one 15 = .ok (.iconst 1, 1) := by decide +kernel
theorem dX14_one_16 : decode cX14_one 16 = .ok (.iadd, 1) := by decide +kernel
theorem dX14_one_17 : decode cX14_one 17 = .ok (.putfield 406, 3) := by decide +kernel
theorem dX14_one_20 : decode cX14_one 20 = .ok (.return_, 1) := by decide +kernel
/-- InferResolveModel.one(I)V -/
noncomputable def qc_37 : pr_Co := [(0, (.inl (po_aload 0 1))), (1, (.inl (po_get 14 35 4))), (4, (.inl (po_aload 0 5))), (5, (.inl (po_get 14 36 8))), (8, (.inl (po_iload 1 9))), (9, (.inl (po_iast 10))), (10, (.inl (po_aload 0 11))), (11, (.inl (po_dup 12))), (12, (.inl (po_get 14 36 15))), (15, (.inl (po_push 1 16))), (16, (.inl (po_i2 (fun x y => x + y) 17))), (17, (.inl (po_puti 14 36 20))), (20, (.inr (re_v)))]
set_option maxRecDepth 100000 in
set_option maxHeartbeats 4000000 in
theorem qs_37 : pr_aS pr_ms m_37 [(0, (.inl (po_aload 0 1))), (1, (.inl (po_get 14 35 4))), (4, (.inl (po_aload 0 5))), (5, (.inl (po_get 14 36 8))), (8, (.inl (po_iload 1 9))), (9, (.inl (po_iast 10))), (10, (.inl (po_aload 0 11))), (11, (.inl (po_dup 12))), (12, (.inl (po_get 14 36 15))), (15, (.inl (po_push 1 16))), (16, (.inl (po_i2 (fun x y => x + y) 17))), (17, (.inl (po_puti 14 36 20))), (20, (.inr (re_v)))] := pr_aS_c (pr_eI (os_aload_n (q := 0) dX14_one_0)) (pr_aS_c (pr_eI (os_get (kf := 35) dX14_one_1 cf_14 (by decide) wd_163)) (pr_aS_c (pr_eI (os_aload_n (q := 0) dX14_one_4)) (pr_aS_c (pr_eI (os_get (kf := 36) dX14_one_5 cf_14 (by decide) wd_252)) (pr_aS_c (pr_eI (os_iload_n (q := 1) dX14_one_8)) (pr_aS_c (pr_eI (os_iast dX14_one_9)) (pr_aS_c (pr_eI (os_aload_n (q := 0) dX14_one_10)) (pr_aS_c (pr_eI (os_dup dX14_one_11)) (pr_aS_c (pr_eI (os_get (kf := 36) dX14_one_12 cf_14 (by decide) wd_252)) (pr_aS_c (pr_eI (os_iconst dX14_one_15 (by decide +kernel))) (pr_aS_c (pr_eI (os_iadd dX14_one_16)) (pr_aS_c (pr_eI (os_puti (kf := 36) dX14_one_17 cf_14 (by decide) wd_252 rfl rfl)) (pr_aS_c (pr_eR (rs_v dX14_one_20 rfl)) trivial))))))))))))
theorem dX14_step_0 : decode cX14_step 0 = .ok (.aload_n 0, 1) := by decide +kernel
theorem dX14_step_1 : decode cX14_step 1 = .ok (.iconst 0, 1) := by decide +kernel
theorem dX14_step_2 : decode cX14_step 2 = .ok (.putfield 1, 3) := by decide +kernel
theorem dX14_step_5 : decode cX14_step 5 = .ok (.aload_n 0, 1) := by decide +kernel
theorem dX14_step_6 : decode cX14_step 6 = .ok (.getfield 282, 3) := by decide +kernel
theorem dX14_step_9 : decode cX14_step 9 = .ok (.ifCond .eq 6, 3) := by decide +kernel
theorem dX14_step_15 : decode cX14_step 15 = .ok (.aload_n 0, 1) := by decide +kernel
theorem dX14_step_16 : decode cX14_step 16 = .ok (.invokevirtual 427, 3) := by decide +kernel
theorem dX14_step_19 : decode cX14_step 19 = .ok (.istore_n 1, 1) := by decide +kernel
theorem dX14_step_20 : decode cX14_step 20 = .ok (.iload_n 1, 1) := by decide +kernel
theorem dX14_step_21 : decode cX14_step 21 = .ok (.ifCond .ne 5, 3) := by decide +kernel
theorem dX14_step_24 : decode cX14_step 24 = .ok (.iconst 0, 1) := by decide +kernel
theorem dX14_step_25 : decode cX14_step 25 = .ok (.ireturn, 1) := by decide +kernel
/-- InferResolveModel.step()I -/
noncomputable def qc_38 : pr_Co := [(0, (.inl (po_aload 0 1))), (1, (.inl (po_push 0 2))), (2, (.inl (po_puti 14 0 5))), (5, (.inl (po_aload 0 6))), (6, (.inl (po_get 14 22 9))), (9, (.inl (po_if1 (fun x => decide (x = 0)) 15 12))), (15, (.inl (po_aload 0 16))), (16, (.inl (po_cv 36 0 14 5 19))), (19, (.inl (po_istore 1 20))), (20, (.inl (po_iload 1 21))), (21, (.inl (po_if1 (fun x => !decide (x = 0)) 26 24))), (24, (.inl (po_push 0 25))), (25, (.inr (re_i)))]
set_option maxRecDepth 100000 in
set_option maxHeartbeats 4000000 in
theorem qs_38 : pr_aS pr_ms m_38 [(0, (.inl (po_aload 0 1))), (1, (.inl (po_push 0 2))), (2, (.inl (po_puti 14 0 5))), (5, (.inl (po_aload 0 6))), (6, (.inl (po_get 14 22 9))), (9, (.inl (po_if1 (fun x => decide (x = 0)) 15 12))), (15, (.inl (po_aload 0 16))), (16, (.inl (po_cv 36 0 14 5 19))), (19, (.inl (po_istore 1 20))), (20, (.inl (po_iload 1 21))), (21, (.inl (po_if1 (fun x => !decide (x = 0)) 26 24))), (24, (.inl (po_push 0 25))), (25, (.inr (re_i)))] := pr_aS_c (pr_eI (os_aload_n (q := 0) dX14_step_0)) (pr_aS_c (pr_eI (os_iconst dX14_step_1 (by decide +kernel))) (pr_aS_c (pr_eI (os_puti (kf := 0) dX14_step_2 cf_14 (by decide) wd_206 rfl rfl)) (pr_aS_c (pr_eI (os_aload_n (q := 0) dX14_step_5)) (pr_aS_c (pr_eI (os_get (kf := 22) dX14_step_6 cf_14 (by decide) wd_218)) (pr_aS_c (pr_eI (os_if_eq dX14_step_9 (by decide))) (pr_aS_c (pr_eI (os_aload_n (q := 0) dX14_step_15)) (pr_aS_c (pr_eI (os_cv dX14_step_16 (k := 36) rfl rfl cal_36 wd_253 wd_255 wd_254 rfl)) (pr_aS_c (pr_eI (os_istore_n (q := 1) dX14_step_19 (by decide))) (pr_aS_c (pr_eI (os_iload_n (q := 1) dX14_step_20)) (pr_aS_c (pr_eI (os_if_ne dX14_step_21 (by decide))) (pr_aS_c (pr_eI (os_iconst dX14_step_24 (by decide +kernel))) (pr_aS_c (pr_eR (rs_i dX14_step_25 rfl)) trivial))))))))))))
theorem dX14_next_0 : decode cX14_next 0 = .ok (.aload_n 0, 1) := by decide +kernel
theorem dX14_next_1 : decode cX14_next 1 = .ok (.iconst 0, 1) := by decide +kernel
theorem dX14_next_2 : decode cX14_next 2 = .ok (.putfield 1, 3) := by decide +kernel
theorem dX14_next_5 : decode cX14_next 5 = .ok (.aload_n 0, 1) := by decide +kernel
theorem dX14_next_6 : decode cX14_next 6 = .ok (.getfield 282, 3) := by decide +kernel
theorem dX14_next_9 : decode cX14_next 9 = .ok (.ifCond .eq 8, 3) := by decide +kernel
theorem dX14_next_17 : decode cX14_next 17 = .ok (.aload_n 0, 1) := by decide +kernel
theorem dX14_next_18 : decode cX14_next 18 = .ok (.invokevirtual 427, 3) := by decide +kernel
theorem dX14_next_21 : decode cX14_next 21 = .ok (.ireturn, 1) := by decide +kernel
/-- InferResolveModel.next()I -/
noncomputable def qc_39 : pr_Co := [(0, (.inl (po_aload 0 1))), (1, (.inl (po_push 0 2))), (2, (.inl (po_puti 14 0 5))), (5, (.inl (po_aload 0 6))), (6, (.inl (po_get 14 22 9))), (9, (.inl (po_if1 (fun x => decide (x = 0)) 17 12))), (17, (.inl (po_aload 0 18))), (18, (.inl (po_cv 36 0 14 5 21))), (21, (.inr (re_i)))]
set_option maxRecDepth 100000 in
set_option maxHeartbeats 4000000 in
theorem qs_39 : pr_aS pr_ms m_39 [(0, (.inl (po_aload 0 1))), (1, (.inl (po_push 0 2))), (2, (.inl (po_puti 14 0 5))), (5, (.inl (po_aload 0 6))), (6, (.inl (po_get 14 22 9))), (9, (.inl (po_if1 (fun x => decide (x = 0)) 17 12))), (17, (.inl (po_aload 0 18))), (18, (.inl (po_cv 36 0 14 5 21))), (21, (.inr (re_i)))] := pr_aS_c (pr_eI (os_aload_n (q := 0) dX14_next_0)) (pr_aS_c (pr_eI (os_iconst dX14_next_1 (by decide +kernel))) (pr_aS_c (pr_eI (os_puti (kf := 0) dX14_next_2 cf_14 (by decide) wd_206 rfl rfl)) (pr_aS_c (pr_eI (os_aload_n (q := 0) dX14_next_5)) (pr_aS_c (pr_eI (os_get (kf := 22) dX14_next_6 cf_14 (by decide) wd_218)) (pr_aS_c (pr_eI (os_if_eq dX14_next_9 (by decide))) (pr_aS_c (pr_eI (os_aload_n (q := 0) dX14_next_17)) (pr_aS_c (pr_eI (os_cv dX14_next_18 (k := 36) rfl rfl cal_36 wd_253 wd_255 wd_254 rfl)) (pr_aS_c (pr_eR (rs_i dX14_next_21 rfl)) trivial))))))))
theorem dX14_variable_0 : decode cX14_variable 0 = .ok (.aload_n 0, 1) := by decide +kernel
theorem dX14_variable_1 : decode cX14_variable 1 = .ok (.iconst 0, 1) := by decide +kernel
theorem dX14_variable_2 : decode cX14_variable 2 = .ok (.putfield 1, 3) := by decide +kernel
theorem dX14_variable_5 : decode cX14_variable 5 = .ok (.aload_n 0, 1) := by decide +kernel
theorem dX14_variable_6 : decode cX14_variable 6 = .ok (.getfield 278, 3) := by decide +kernel
theorem dX14_variable_9 : decode cX14_variable 9 = .ok (.bipush 6, 2) := by decide +kernel
theorem dX14_variable_11 : decode cX14_variable 11 = .ok (.if_icmp .ne 6, 3) := by decide +kernel
theorem dX14_variable_17 : decode cX14_variable 17 = .ok (.aload_n 0, 1) := by decide +kernel
theorem dX14_variable_18 : decode cX14_variable 18 = .ok (.getfield 50, 3) := by decide +kernel
theorem dX14_variable_21 : decode cX14_variable 21 = .ok (.aload_n 0, 1) := by decide +kernel
theorem dX14_variable_22 : decode cX14_variable 22 = .ok (.getfield 278, 3) := by decide +kernel
theorem dX14_variable_25 : decode cX14_variable 25 = .ok (.iload_n 1, 1) := by decide +kernel
theorem dX14_variable_26 : decode cX14_variable 26 = .ok (.bastore, 1) := by decide +kernel
theorem dX14_variable_27 : decode cX14_variable 27 = .ok (.aload_n 0, 1) := by decide +kernel
theorem dX14_variable_28 : decode cX14_variable 28 = .ok (.dup, 1) := by decide +kernel
theorem dX14_variable_29 : decode cX14_variable 29 = .ok (.getfield 278, 3) := by decide +kernel
theorem dX14_variable_32 : decode cX14_variable 32 = .ok (.iconst 1, 1) := by decide +kernel
theorem dX14_variable_33 : decode cX14_variable 33 = .ok (.iadd, 1) := by decide +kernel
theorem dX14_variable_34 : decode cX14_variable 34 = .ok (.putfield 278, 3) := by decide +kernel
theorem dX14_variable_37 : decode cX14_variable 37 = .ok (.aload_n 0, 1) := by decide +kernel
theorem dX14_variable_38 : decode cX14_variable 38 = .ok (.getfield 278, 3) := by decide +kernel
theorem dX14_variable_41 : decode cX14_variable 41 = .ok (.iconst 1, 1) := by decide +kernel
theorem dX14_variable_42 : decode cX14_variable 42 = .ok (.isub, 1) := by decide +kernel
theorem dX14_variable_43 : decode cX14_variable 43 = .ok (.ireturn, 1) := by decide +kernel
/-- InferResolveModel.variable(Z)I -/
noncomputable def qc_40 : pr_Co := [(0, (.inl (po_aload 0 1))), (1, (.inl (po_push 0 2))), (2, (.inl (po_puti 14 0 5))), (5, (.inl (po_aload 0 6))), (6, (.inl (po_get 14 8 9))), (9, (.inl (po_push 6 11))), (11, (.inl (po_if2 (fun x y => !decide (x = y)) 17 14))), (17, (.inl (po_aload 0 18))), (18, (.inl (po_get 14 7 21))), (21, (.inl (po_aload 0 22))), (22, (.inl (po_get 14 8 25))), (25, (.inl (po_iload 1 26))), (26, (.inl (po_zast 27))), (27, (.inl (po_aload 0 28))), (28, (.inl (po_dup 29))), (29, (.inl (po_get 14 8 32))), (32, (.inl (po_push 1 33))), (33, (.inl (po_i2 (fun x y => x + y) 34))), (34, (.inl (po_puti 14 8 37))), (37, (.inl (po_aload 0 38))), (38, (.inl (po_get 14 8 41))), (41, (.inl (po_push 1 42))), (42, (.inl (po_i2 (fun x y => x - y) 43))), (43, (.inr (re_i)))]
set_option maxRecDepth 100000 in
set_option maxHeartbeats 4000000 in
theorem qs_40 : pr_aS pr_ms m_40 [(0, (.inl (po_aload 0 1))), (1, (.inl (po_push 0 2))), (2, (.inl (po_puti 14 0 5))), (5, (.inl (po_aload 0 6))), (6, (.inl (po_get 14 8 9))), (9, (.inl (po_push 6 11))), (11, (.inl (po_if2 (fun x y => !decide (x = y)) 17 14))), (17, (.inl (po_aload 0 18))), (18, (.inl (po_get 14 7 21))), (21, (.inl (po_aload 0 22))), (22, (.inl (po_get 14 8 25))), (25, (.inl (po_iload 1 26))), (26, (.inl (po_zast 27))), (27, (.inl (po_aload 0 28))), (28, (.inl (po_dup 29))), (29, (.inl (po_get 14 8 32))), (32, (.inl (po_push 1 33))), (33, (.inl (po_i2 (fun x y => x + y) 34))), (34, (.inl (po_puti 14 8 37))), (37, (.inl (po_aload 0 38))), (38, (.inl (po_get 14 8 41))), (41, (.inl (po_push 1 42))), (42, (.inl (po_i2 (fun x y => x - y) 43))), (43, (.inr (re_i)))] := pr_aS_c (pr_eI (os_aload_n (q := 0) dX14_variable_0)) (pr_aS_c (pr_eI (os_iconst dX14_variable_1 (by decide +kernel))) (pr_aS_c (pr_eI (os_puti (kf := 0) dX14_variable_2 cf_14 (by decide) wd_206 rfl rfl)) (pr_aS_c (pr_eI (os_aload_n (q := 0) dX14_variable_5)) (pr_aS_c (pr_eI (os_get (kf := 8) dX14_variable_6 cf_14 (by decide) wd_216)) (pr_aS_c (pr_eI (os_bipush dX14_variable_9 (by decide +kernel))) (pr_aS_c (pr_eI (os_icmp_ne dX14_variable_11 (by decide))) (pr_aS_c (pr_eI (os_aload_n (q := 0) dX14_variable_17)) (pr_aS_c (pr_eI (os_get (kf := 7) dX14_variable_18 cf_14 (by decide) wd_146)) (pr_aS_c (pr_eI (os_aload_n (q := 0) dX14_variable_21)) (pr_aS_c (pr_eI (os_get (kf := 8) dX14_variable_22 cf_14 (by decide) wd_216)) (pr_aS_c (pr_eI (os_iload_n (q := 1) dX14_variable_25)) (pr_aS_c (pr_eI (os_zast dX14_variable_26)) (pr_aS_c (pr_eI (os_aload_n (q := 0) dX14_variable_27)) (pr_aS_c (pr_eI (os_dup dX14_variable_28)) (pr_aS_c (pr_eI (os_get (kf := 8) dX14_variable_29 cf_14 (by decide) wd_216)) (pr_aS_c (pr_eI (os_iconst dX14_variable_32 (by decide +kernel))) (pr_aS_c (pr_eI (os_iadd dX14_variable_33)) (pr_aS_c (pr_eI (os_puti (kf := 8) dX14_variable_34 cf_14 (by decide) wd_216 rfl rfl)) (pr_aS_c (pr_eI (os_aload_n (q := 0) dX14_variable_37)) (pr_aS_c (pr_eI (os_get (kf := 8) dX14_variable_38 cf_14 (by decide) wd_216)) (pr_aS_c (pr_eI (os_iconst dX14_variable_41 (by decide +kernel))) (pr_aS_c (pr_eI (os_isub dX14_variable_42)) (pr_aS_c (pr_eR (rs_i dX14_variable_43 rfl)) trivial)))))))))))))))))))))))
theorem dX14_fresh_0 : decode cX14_fresh 0 = .ok (.aload_n 0, 1) := by decide +kernel
theorem dX14_fresh_1 : decode cX14_fresh 1 = .ok (.iconst 0, 1) := by decide +kernel
theorem dX14_fresh_2 : decode cX14_fresh 2 = .ok (.putfield 1, 3) := by decide +kernel
theorem dX14_fresh_5 : decode cX14_fresh 5 = .ok (.aload_n 0, 1) := by decide +kernel
theorem dX14_fresh_6 : decode cX14_fresh 6 = .ok (.getfield 64, 3) := by decide +kernel
theorem dX14_fresh_9 : decode cX14_fresh 9 = .ok (.getfield 281, 3) := by decide +kernel
theorem dX14_fresh_12 : decode cX14_fresh 12 = .ok (.istore_n 1, 1) := by decide +kernel
theorem dX14_fresh_13 : decode cX14_fresh 13 = .ok (.aload_n 0, 1) := by decide +kernel
theorem dX14_fresh_14 : decode cX14_fresh 14 = .ok (.invokevirtual 277, 3) := by decide +kernel
theorem dX14_fresh_17 : decode cX14_fresh 17 = .ok (.iload_n 1, 1) := by decide +kernel
theorem dX14_fresh_18 : decode cX14_fresh 18 = .ok (.ireturn, 1) := by decide +kernel
/-- InferResolveModel.fresh()I -/
noncomputable def qc_41 : pr_Co := [(0, (.inl (po_aload 0 1))), (1, (.inl (po_push 0 2))), (2, (.inl (po_puti 14 0 5))), (5, (.inl (po_aload 0 6))), (6, (.inl (po_get 14 20 9))), (9, (.inl (po_get 11 0 12))), (12, (.inl (po_istore 1 13))), (13, (.inl (po_aload 0 14))), (14, (.inl (po_cv 29 0 14 1 17))), (17, (.inl (po_iload 1 18))), (18, (.inr (re_i)))]
set_option maxRecDepth 100000 in
set_option maxHeartbeats 4000000 in
theorem qs_41 : pr_aS pr_ms m_41 [(0, (.inl (po_aload 0 1))), (1, (.inl (po_push 0 2))), (2, (.inl (po_puti 14 0 5))), (5, (.inl (po_aload 0 6))), (6, (.inl (po_get 14 20 9))), (9, (.inl (po_get 11 0 12))), (12, (.inl (po_istore 1 13))), (13, (.inl (po_aload 0 14))), (14, (.inl (po_cv 29 0 14 1 17))), (17, (.inl (po_iload 1 18))), (18, (.inr (re_i)))] := pr_aS_c (pr_eI (os_aload_n (q := 0) dX14_fresh_0)) (pr_aS_c (pr_eI (os_iconst dX14_fresh_1 (by decide +kernel))) (pr_aS_c (pr_eI (os_puti (kf := 0) dX14_fresh_2 cf_14 (by decide) wd_206 rfl rfl)) (pr_aS_c (pr_eI (os_aload_n (q := 0) dX14_fresh_5)) (pr_aS_c (pr_eI (os_get (kf := 20) dX14_fresh_6 cf_14 (by decide) wd_154)) (pr_aS_c (pr_eI (os_get (kf := 0) dX14_fresh_9 cf_11 (by decide) wd_217)) (pr_aS_c (pr_eI (os_istore_n (q := 1) dX14_fresh_12 (by decide))) (pr_aS_c (pr_eI (os_aload_n (q := 0) dX14_fresh_13)) (pr_aS_c (pr_eI (os_cv dX14_fresh_14 (k := 29) rfl rfl cal_29 wd_213 wd_215 wd_214 rfl)) (pr_aS_c (pr_eI (os_iload_n (q := 1) dX14_fresh_17)) (pr_aS_c (pr_eR (rs_i dX14_fresh_18 rfl)) trivial))))))))))
theorem dX14_bound_0 : decode cX14_bound 0 = .ok (.aload_n 0, 1) := by decide +kernel
theorem dX14_bound_1 : decode cX14_bound 1 = .ok (.iconst 0, 1) := by decide +kernel
theorem dX14_bound_2 : decode cX14_bound 2 = .ok (.putfield 1, 3) := by decide +kernel
theorem dX14_bound_5 : decode cX14_bound 5 = .ok (.aload_n 0, 1) := by decide +kernel
theorem dX14_bound_6 : decode cX14_bound 6 = .ok (.getfield 282, 3) := by decide +kernel
theorem dX14_bound_9 : decode cX14_bound 9 = .ok (.ifCond .ne 15, 3) := by decide +kernel
theorem dX14_bound_12 : decode cX14_bound 12 = .ok (.aload_n 0, 1) := by decide +kernel
theorem dX14_bound_13 : decode cX14_bound 13 = .ok (.getfield 64, 3) := by decide +kernel
theorem dX14_bound_16 : decode cX14_bound 16 = .ok (.getfield 281, 3) := by decide +kernel
theorem dX14_bound_19 : decode cX14_bound 19 = .ok (.bipush 24, 2) := by decide +kernel
theorem dX14_bound_21 : decode cX14_bound 21 = .ok (.if_icmp .lt 6, 3) := by decide +kernel
theorem dX14_bound_27 : decode cX14_bound 27 = .ok (.aload_n 0, 1) := by decide +kernel
theorem dX14_bound_28 : decode cX14_bound 28 = .ok (.invokevirtual 368, 3) := by decide +kernel
theorem dX14_bound_31 : decode cX14_bound 31 = .ok (.aload_n 0, 1) := by decide +kernel
theorem dX14_bound_32 : decode cX14_bound 32 = .ok (.invokevirtual 269, 3) := by decide +kernel
theorem dX14_bound_35 : decode cX14_bound 35 = .ok (.aload_n 0, 1) := by decide +kernel
theorem dX14_bound_36 : decode cX14_bound 36 = .ok (.aload_n 0, 1) := by decide +kernel
theorem dX14_bound_37 : decode cX14_bound 37 = .ok (.getfield 43, 3) := by decide +kernel
theorem dX14_bound_40 : decode cX14_bound 40 = .ok (.aload_n 0, 1) := by decide +kernel
theorem dX14_bound_41 : decode cX14_bound 41 = .ok (.getfield 20, 3) := by decide +kernel
theorem dX14_bound_44 : decode cX14_bound 44 = .ok (.iconst (-1), 1) := by decide +kernel
theorem dX14_bound_45 : decode cX14_bound 45 = .ok (.iconst 0, 1) := by decide +kernel
theorem dX14_bound_46 : decode cX14_bound 46 = .ok (.aload_n 0, 1) := by decide +kernel
theorem dX14_bound_47 : decode cX14_bound 47 = .ok (.getfield 278, 3) := by decide +kernel
theorem dX14_bound_50 : decode cX14_bound 50 = .ok (.invokevirtual 245, 3) := by decide +kernel
theorem dX14_bound_53 : decode cX14_bound 53 = .ok (.istore_n 1, 1) := by decide +kernel
theorem dX14_bound_54 : decode cX14_bound 54 = .ok (.aload_n 0, 1) := by decide +kernel
theorem dX14_bound_55 : decode cX14_bound 55 = .ok (.bipush 61, 2) := by decide +kernel
theorem dX14_bound_57 : decode cX14_bound 57 = .ok (.invokevirtual 223, 3) := by decide +kernel
theorem dX14_bound_60 : decode cX14_bound 60 = .ok (.istore_n 2, 1) := by decide +kernel
theorem dX14_bound_61 : decode cX14_bound 61 = .ok (.aload_n 0, 1) := by decide +kernel
theorem dX14_bound_62 : decode cX14_bound 62 = .ok (.invokevirtual 219, 3) := by decide +kernel
theorem dX14_bound_65 : decode cX14_bound 65 = .ok (.ifCond .eq 20, 3) := by decide +kernel
theorem dX14_bound_85 : decode cX14_bound 85 = .ok (.aload_n 0, 1) := by decide +kernel
theorem dX14_bound_86 : decode cX14_bound 86 = .ok (.invokevirtual 219, 3) := by decide +kernel
theorem dX14_bound_89 : decode cX14_bound 89 = .ok (.ifCond .eq 7, 3) := by decide +kernel
theorem dX14_bound_96 : decode cX14_bound 96 = .ok (.aload_n 0, 1) := by decide +kernel
theorem dX14_bound_97 : decode cX14_bound 97 = .ok (.aload_n 0, 1) := by decide +kernel
theorem dX14_bound_98 : decode cX14_bound 98 = .ok (.getfield 43, 3) := by decide +kernel
theorem dX14_bound_101 : decode cX14_bound 101 = .ok (.aload_n 0, 1) := by decide +kernel
theorem dX14_bound_102 : decode cX14_bound 102 = .ok (.getfield 20, 3) := by decide +kernel
theorem dX14_bound_105 : decode cX14_bound 105 = .ok (.iconst (-1), 1) := by decide +kernel
theorem dX14_bound_106 : decode cX14_bound 106 = .ok (.iconst 0, 1) := by decide +kernel
theorem dX14_bound_107 : decode cX14_bound 107 = .ok (.aload_n 0, 1) := by decide +kernel
theorem dX14_bound_108 : decode cX14_bound 108 = .ok (.getfield 278, 3) := by decide +kernel
theorem dX14_bound_111 : decode cX14_bound 111 = .ok (.invokevirtual 245, 3) := by decide +kernel
theorem dX14_bound_114 : decode cX14_bound 114 = .ok (.istore_n 3, 1) := by decide +kernel
theorem dX14_bound_115 : decode cX14_bound 115 = .ok (.aload_n 0, 1) := by decide +kernel
theorem dX14_bound_116 : decode cX14_bound 116 = .ok (.invokevirtual 219, 3) := by decide +kernel
theorem dX14_bound_119 : decode cX14_bound 119 = .ok (.ifCond .eq 14, 3) := by decide +kernel
theorem dX14_bound_133 : decode cX14_bound 133 = .ok (.aload_n 0, 1) := by decide +kernel
theorem dX14_bound_134 : decode cX14_bound 134 = .ok (.invokevirtual 274, 3) := by decide +kernel
theorem dX14_bound_137 : decode cX14_bound 137 = .ok (.istore 4, 2) := by decide +kernel
theorem dX14_bound_139 : decode cX14_bound 139 = .ok (.iload 4, 2) := by decide +kernel
theorem dX14_bound_141 : decode cX14_bound 141 = .ok (.ifCond .ge 6, 3) := by decide +kernel
theorem dX14_bound_144 : decode cX14_bound 144 = .ok (.iload 4, 2) := by decide +kernel
theorem dX14_bound_146 : decode cX14_bound 146 = .ok (.ireturn, 1) := by decide +kernel
/-- InferResolveModel.bound()I -/
noncomputable def qc_42 : pr_Co := [(0, (.inl (po_aload 0 1))), (1, (.inl (po_push 0 2))), (2, (.inl (po_puti 14 0 5))), (5, (.inl (po_aload 0 6))), (6, (.inl (po_get 14 22 9))), (9, (.inl (po_if1 (fun x => !decide (x = 0)) 24 12))), (12, (.inl (po_aload 0 13))), (13, (.inl (po_get 14 20 16))), (16, (.inl (po_get 11 0 19))), (19, (.inl (po_push 24 21))), (21, (.inl (po_if2 (fun x y => decide (x < y)) 27 24))), (27, (.inl (po_aload 0 28))), (28, (.inl (po_cv 31 0 14 4 31))), (31, (.inl (po_aload 0 32))), (32, (.inl (po_cv 24 0 14 1 35))), (35, (.inl (po_aload 0 36))), (36, (.inl (po_aload 0 37))), (37, (.inl (po_get 14 5 40))), (40, (.inl (po_aload 0 41))), (41, (.inl (po_get 14 1 44))), (44, (.inl (po_push (-1) 45))), (45, (.inl (po_push 0 46))), (46, (.inl (po_aload 0 47))), (47, (.inl (po_get 14 8 50))), (50, (.inl (po_cv 26 5 14 10 53))), (53, (.inl (po_istore 1 54))), (54, (.inl (po_aload 0 55))), (55, (.inl (po_push 61 57))), (57, (.inl (po_cv 22 1 14 2 60))), (60, (.inl (po_istore 2 61))), (61, (.inl (po_aload 0 62))), (62, (.inl (po_cv 20 0 14 1 65))), (65, (.inl (po_if1 (fun x => decide (x = 0)) 85 68))), (85, (.inl (po_aload 0 86))), (86, (.inl (po_cv 20 0 14 1 89))), (89, (.inl (po_if1 (fun x => decide (x = 0)) 96 92))), (96, (.inl (po_aload 0 97))), (97, (.inl (po_aload 0 98))), (98, (.inl (po_get 14 5 101))), (101, (.inl (po_aload 0 102))), (102, (.inl (po_get 14 1 105))), (105, (.inl (po_push (-1) 106))), (106, (.inl (po_push 0 107))), (107, (.inl (po_aload 0 108))), (108, (.inl (po_get 14 8 111))), (111, (.inl (po_cv 26 5 14 10 114))), (114, (.inl (po_istore 3 115))), (115, (.inl (po_aload 0 116))), (116, (.inl (po_cv 20 0 14 1 119))), (119, (.inl (po_if1 (fun x => decide (x = 0)) 133 122))), (133, (.inl (po_aload 0 134))), (134, (.inl (po_cv 25 0 14 1 137))), (137, (.inl (po_istore 4 139))), (139, (.inl (po_iload 4 141))), (141, (.inl (po_if1 (fun x => decide (0 ≤ x)) 147 144))), (144, (.inl (po_iload 4 146))), (146, (.inr (re_i)))]
set_option maxRecDepth 100000 in
set_option maxHeartbeats 4000000 in
theorem qs_42 : pr_aS pr_ms m_42 [(0, (.inl (po_aload 0 1))), (1, (.inl (po_push 0 2))), (2, (.inl (po_puti 14 0 5))), (5, (.inl (po_aload 0 6))), (6, (.inl (po_get 14 22 9))), (9, (.inl (po_if1 (fun x => !decide (x = 0)) 24 12))), (12, (.inl (po_aload 0 13))), (13, (.inl (po_get 14 20 16))), (16, (.inl (po_get 11 0 19))), (19, (.inl (po_push 24 21))), (21, (.inl (po_if2 (fun x y => decide (x < y)) 27 24))), (27, (.inl (po_aload 0 28))), (28, (.inl (po_cv 31 0 14 4 31))), (31, (.inl (po_aload 0 32))), (32, (.inl (po_cv 24 0 14 1 35))), (35, (.inl (po_aload 0 36))), (36, (.inl (po_aload 0 37))), (37, (.inl (po_get 14 5 40))), (40, (.inl (po_aload 0 41))), (41, (.inl (po_get 14 1 44))), (44, (.inl (po_push (-1) 45))), (45, (.inl (po_push 0 46))), (46, (.inl (po_aload 0 47))), (47, (.inl (po_get 14 8 50))), (50, (.inl (po_cv 26 5 14 10 53))), (53, (.inl (po_istore 1 54))), (54, (.inl (po_aload 0 55))), (55, (.inl (po_push 61 57))), (57, (.inl (po_cv 22 1 14 2 60))), (60, (.inl (po_istore 2 61))), (61, (.inl (po_aload 0 62))), (62, (.inl (po_cv 20 0 14 1 65))), (65, (.inl (po_if1 (fun x => decide (x = 0)) 85 68))), (85, (.inl (po_aload 0 86))), (86, (.inl (po_cv 20 0 14 1 89))), (89, (.inl (po_if1 (fun x => decide (x = 0)) 96 92))), (96, (.inl (po_aload 0 97))), (97, (.inl (po_aload 0 98))), (98, (.inl (po_get 14 5 101))), (101, (.inl (po_aload 0 102))), (102, (.inl (po_get 14 1 105))), (105, (.inl (po_push (-1) 106))), (106, (.inl (po_push 0 107))), (107, (.inl (po_aload 0 108))), (108, (.inl (po_get 14 8 111))), (111, (.inl (po_cv 26 5 14 10 114))), (114, (.inl (po_istore 3 115))), (115, (.inl (po_aload 0 116))), (116, (.inl (po_cv 20 0 14 1 119))), (119, (.inl (po_if1 (fun x => decide (x = 0)) 133 122))), (133, (.inl (po_aload 0 134))), (134, (.inl (po_cv 25 0 14 1 137))), (137, (.inl (po_istore 4 139))), (139, (.inl (po_iload 4 141))), (141, (.inl (po_if1 (fun x => decide (0 ≤ x)) 147 144))), (144, (.inl (po_iload 4 146))), (146, (.inr (re_i)))] := pr_aS_c (pr_eI (os_aload_n (q := 0) dX14_bound_0)) (pr_aS_c (pr_eI (os_iconst dX14_bound_1 (by decide +kernel))) (pr_aS_c (pr_eI (os_puti (kf := 0) dX14_bound_2 cf_14 (by decide) wd_206 rfl rfl)) (pr_aS_c (pr_eI (os_aload_n (q := 0) dX14_bound_5)) (pr_aS_c (pr_eI (os_get (kf := 22) dX14_bound_6 cf_14 (by decide) wd_218)) (pr_aS_c (pr_eI (os_if_ne dX14_bound_9 (by decide))) (pr_aS_c (pr_eI (os_aload_n (q := 0) dX14_bound_12)) (pr_aS_c (pr_eI (os_get (kf := 20) dX14_bound_13 cf_14 (by decide) wd_154)) (pr_aS_c (pr_eI (os_get (kf := 0) dX14_bound_16 cf_11 (by decide) wd_217)) (pr_aS_c (pr_eI (os_bipush dX14_bound_19 (by decide +kernel))) (pr_aS_c (pr_eI (os_icmp_lt dX14_bound_21 (by decide))) (pr_aS_c (pr_eI (os_aload_n (q := 0) dX14_bound_27)) (pr_aS_c (pr_eI (os_cv dX14_bound_28 (k := 31) rfl rfl cal_31 wd_234 wd_236 wd_235 rfl)) (pr_aS_c (pr_eI (os_aload_n (q := 0) dX14_bound_31)) (pr_aS_c (pr_eI (os_cv dX14_bound_32 (k := 24) rfl rfl cal_24 wd_207 wd_209 wd_208 rfl)) (pr_aS_c (pr_eI (os_aload_n (q := 0) dX14_bound_35)) (pr_aS_c (pr_eI (os_aload_n (q := 0) dX14_bound_36)) (pr_aS_c (pr_eI (os_get (kf := 5) dX14_bound_37 cf_14 (by decide) wd_143)) (pr_aS_c (pr_eI (os_aload_n (q := 0) dX14_bound_40)) (pr_aS_c (pr_eI (os_get (kf := 1) dX14_bound_41 cf_14 (by decide) wd_136)) (pr_aS_c (pr_eI (os_iconst dX14_bound_44 (by decide +kernel))) (pr_aS_c (pr_eI (os_iconst dX14_bound_45 (by decide +kernel))) (pr_aS_c (pr_eI (os_aload_n (q := 0) dX14_bound_46)) (pr_aS_c (pr_eI (os_get (kf := 8) dX14_bound_47 cf_14 (by decide) wd_216)) (pr_aS_c (pr_eI (os_cv dX14_bound_50 (k := 26) rfl rfl cal_26 wd_256 wd_258 wd_257 rfl)) (pr_aS_c (pr_eI (os_istore_n (q := 1) dX14_bound_53 (by decide))) (pr_aS_c (pr_eI (os_aload_n (q := 0) dX14_bound_54)) (pr_aS_c (pr_eI (os_bipush dX14_bound_55 (by decide +kernel))) (pr_aS_c (pr_eI (os_cv dX14_bound_57 (k := 22) rfl rfl cal_22 wd_196 wd_198 wd_197 rfl)) (pr_aS_c (pr_eI (os_istore_n (q := 2) dX14_bound_60 (by decide))) (pr_aS_c (pr_eI (os_aload_n (q := 0) dX14_bound_61)) (pr_aS_c (pr_eI (os_cv dX14_bound_62 (k := 20) rfl rfl cal_20 wd_193 wd_195 wd_194 rfl)) (pr_aS_c (pr_eI (os_if_eq dX14_bound_65 (by decide))) (pr_aS_c (pr_eI (os_aload_n (q := 0) dX14_bound_85)) (pr_aS_c (pr_eI (os_cv dX14_bound_86 (k := 20) rfl rfl cal_20 wd_193 wd_195 wd_194 rfl)) (pr_aS_c (pr_eI (os_if_eq dX14_bound_89 (by decide))) (pr_aS_c (pr_eI (os_aload_n (q := 0) dX14_bound_96)) (pr_aS_c (pr_eI (os_aload_n (q := 0) dX14_bound_97)) (pr_aS_c (pr_eI (os_get (kf := 5) dX14_bound_98 cf_14 (by decide) wd_143)) (pr_aS_c (pr_eI (os_aload_n (q := 0) dX14_bound_101)) (pr_aS_c (pr_eI (os_get (kf := 1) dX14_bound_102 cf_14 (by decide) wd_136)) (pr_aS_c (pr_eI (os_iconst dX14_bound_105 (by decide +kernel))) (pr_aS_c (pr_eI (os_iconst dX14_bound_106 (by decide +kernel))) (pr_aS_c (pr_eI (os_aload_n (q := 0) dX14_bound_107)) (pr_aS_c (pr_eI (os_get (kf := 8) dX14_bound_108 cf_14 (by decide) wd_216)) (pr_aS_c (pr_eI (os_cv dX14_bound_111 (k := 26) rfl rfl cal_26 wd_256 wd_258 wd_257 rfl)) (pr_aS_c (pr_eI (os_istore_n (q := 3) dX14_bound_114 (by decide))) (pr_aS_c (pr_eI (os_aload_n (q := 0) dX14_bound_115)) (pr_aS_c (pr_eI (os_cv dX14_bound_116 (k := 20) rfl rfl cal_20 wd_193 wd_195 wd_194 rfl)) (pr_aS_c (pr_eI (os_if_eq dX14_bound_119 (by decide))) (pr_aS_c (pr_eI (os_aload_n (q := 0) dX14_bound_133)) (pr_aS_c (pr_eI (os_cv dX14_bound_134 (k := 25) rfl rfl cal_25 wd_210 wd_212 wd_211 rfl)) (pr_aS_c (pr_eI (os_istore dX14_bound_137 (by decide))) (pr_aS_c (pr_eI (os_iload dX14_bound_139)) (pr_aS_c (pr_eI (os_if_ge dX14_bound_141 (by decide))) (pr_aS_c (pr_eI (os_iload dX14_bound_144)) (pr_aS_c (pr_eR (rs_i dX14_bound_146 rfl)) trivial))))))))))))))))))))))))))))))))))))))))))))))))))))))))
theorem dX14_close_0 : decode cX14_close 0 = .ok (.aload_n 0, 1) := by decide +kernel
theorem dX14_close_1 : decode cX14_close 1 = .ok (.iconst 0, 1) := by decide +kernel
theorem dX14_close_2 : decode cX14_close 2 = .ok (.putfield 1, 3) := by decide +kernel
theorem dX14_close_5 : decode cX14_close 5 = .ok (.aload_n 0, 1) := by decide +kernel
theorem dX14_close_6 : decode cX14_close 6 = .ok (.getfield 282, 3) := by decide +kernel
theorem dX14_close_9 : decode cX14_close 9 = .ok (.ifCond .eq 6, 3) := by decide +kernel
theorem dX14_close_15 : decode cX14_close 15 = .ok (.aload_n 0, 1) := by decide +kernel
theorem dX14_close_16 : decode cX14_close 16 = .ok (.iconst 0, 1) := by decide +kernel
theorem dX14_close_17 : decode cX14_close 17 = .ok (.putfield 11, 3) := by decide +kernel
theorem dX14_close_20 : decode cX14_close 20 = .ok (.aload_n 0, 1) := by decide +kernel
theorem dX14_close_21 : decode cX14_close 21 = .ok (.iconst 0, 1) := by decide +kernel
theorem dX14_close_22 : decode cX14_close 22 = .ok (.invokevirtual 436, 3) := by decide +kernel
theorem dX14_close_25 : decode cX14_close 25 = .ok (.aload_n 0, 1) := by decide +kernel
theorem dX14_close_26 : decode cX14_close 26 = .ok (.getfield 282, 3) := by decide +kernel
theorem dX14_close_29 : decode cX14_close 29 = .ok (.ireturn, 1) := by decide +kernel
/-- InferResolveModel.close()I -/
noncomputable def qc_43 : pr_Co := [(0, (.inl (po_aload 0 1))), (1, (.inl (po_push 0 2))), (2, (.inl (po_puti 14 0 5))), (5, (.inl (po_aload 0 6))), (6, (.inl (po_get 14 22 9))), (9, (.inl (po_if1 (fun x => decide (x = 0)) 15 12))), (15, (.inl (po_aload 0 16))), (16, (.inl (po_push 0 17))), (17, (.inl (po_puti 14 4 20))), (20, (.inl (po_aload 0 21))), (21, (.inl (po_push 0 22))), (22, (.inl (po_cv 34 1 14 4 25))), (25, (.inl (po_aload 0 26))), (26, (.inl (po_get 14 22 29))), (29, (.inr (re_i)))]
set_option maxRecDepth 100000 in
set_option maxHeartbeats 4000000 in
theorem qs_43 : pr_aS pr_ms m_43 [(0, (.inl (po_aload 0 1))), (1, (.inl (po_push 0 2))), (2, (.inl (po_puti 14 0 5))), (5, (.inl (po_aload 0 6))), (6, (.inl (po_get 14 22 9))), (9, (.inl (po_if1 (fun x => decide (x = 0)) 15 12))), (15, (.inl (po_aload 0 16))), (16, (.inl (po_push 0 17))), (17, (.inl (po_puti 14 4 20))), (20, (.inl (po_aload 0 21))), (21, (.inl (po_push 0 22))), (22, (.inl (po_cv 34 1 14 4 25))), (25, (.inl (po_aload 0 26))), (26, (.inl (po_get 14 22 29))), (29, (.inr (re_i)))] := pr_aS_c (pr_eI (os_aload_n (q := 0) dX14_close_0)) (pr_aS_c (pr_eI (os_iconst dX14_close_1 (by decide +kernel))) (pr_aS_c (pr_eI (os_puti (kf := 0) dX14_close_2 cf_14 (by decide) wd_206 rfl rfl)) (pr_aS_c (pr_eI (os_aload_n (q := 0) dX14_close_5)) (pr_aS_c (pr_eI (os_get (kf := 22) dX14_close_6 cf_14 (by decide) wd_218)) (pr_aS_c (pr_eI (os_if_eq dX14_close_9 (by decide))) (pr_aS_c (pr_eI (os_aload_n (q := 0) dX14_close_15)) (pr_aS_c (pr_eI (os_iconst dX14_close_16 (by decide +kernel))) (pr_aS_c (pr_eI (os_puti (kf := 4) dX14_close_17 cf_14 (by decide) wd_127 rfl rfl)) (pr_aS_c (pr_eI (os_aload_n (q := 0) dX14_close_20)) (pr_aS_c (pr_eI (os_iconst dX14_close_21 (by decide +kernel))) (pr_aS_c (pr_eI (os_cv dX14_close_22 (k := 34) rfl rfl cal_34 wd_259 wd_261 wd_260 rfl)) (pr_aS_c (pr_eI (os_aload_n (q := 0) dX14_close_25)) (pr_aS_c (pr_eI (os_get (kf := 22) dX14_close_26 cf_14 (by decide) wd_218)) (pr_aS_c (pr_eR (rs_i dX14_close_29 rfl)) trivial))))))))))))))
theorem dX14_told_0 : decode cX14_told 0 = .ok (.aload_n 0, 1) := by decide +kernel
theorem dX14_told_1 : decode cX14_told 1 = .ok (.iconst 0, 1) := by decide +kernel
theorem dX14_told_2 : decode cX14_told 2 = .ok (.putfield 1, 3) := by decide +kernel
theorem dX14_told_5 : decode cX14_told 5 = .ok (.iload_n 1, 1) := by decide +kernel
theorem dX14_told_6 : decode cX14_told 6 = .ok (.tableswitch 86 0 6 #[42, 50, 55, 63, 68, 73, 78], 42) := by decide +kernel
theorem dX14_told_48 : decode cX14_told 48 = .ok (.aload_n 0, 1) := by decide +kernel
theorem dX14_told_49 : decode cX14_told 49 = .ok (.getfield 43, 3) := by decide +kernel
theorem dX14_told_52 : decode cX14_told 52 = .ok (.getfield 115, 3) := by decide +kernel
theorem dX14_told_55 : decode cX14_told 55 = .ok (.ireturn, 1) := by decide +kernel
theorem dX14_told_56 : decode cX14_told 56 = .ok (.aload_n 0, 1) := by decide +kernel
theorem dX14_told_57 : decode cX14_told 57 = .ok (.getfield 278, 3) := by decide +kernel
theorem dX14_told_60 : decode cX14_told 60 = .ok (.ireturn, 1) := by decide +kernel
theorem dX14_told_61 : decode cX14_told 61 = .ok (.aload_n 0, 1) := by decide +kernel
theorem dX14_told_62 : decode cX14_told 62 = .ok (.getfield 64, 3) := by decide +kernel
theorem dX14_told_65 : decode cX14_told 65 = .ok (.getfield 281, 3) := by decide +kernel
theorem dX14_told_68 : decode cX14_told 68 = .ok (.ireturn, 1) := by decide +kernel
theorem dX14_told_69 : decode cX14_told 69 = .ok (.aload_n 0, 1) := by decide +kernel
theorem dX14_told_70 : decode cX14_told 70 = .ok (.getfield 282, 3) := by decide +kernel
theorem dX14_told_73 : decode cX14_told 73 = .ok (.ireturn, 1) := by decide +kernel
theorem dX14_told_74 : decode cX14_told 74 = .ok (.aload_n 0, 1) := by decide +kernel
theorem dX14_told_75 : decode cX14_told 75 = .ok (.getfield 285, 3) := by decide +kernel
theorem dX14_told_78 : decode cX14_told 78 = .ok (.ireturn, 1) := by decide +kernel
theorem dX14_told_79 : decode cX14_told 79 = .ok (.aload_n 0, 1) := by decide +kernel
theorem dX14_told_80 : decode cX14_told 80 = .ok (.getfield 174, 3) := by decide +kernel
theorem dX14_told_83 : decode cX14_told 83 = .ok (.ireturn, 1) := by decide +kernel
theorem dX14_told_84 : decode cX14_told 84 = .ok (.aload_n 0, 1) := by decide +kernel
theorem dX14_told_85 : decode cX14_told 85 = .ok (.invokevirtual 398, 3) := by decide +kernel
theorem dX14_told_88 : decode cX14_told 88 = .ok (.invokestatic 401, 3) := by decide +kernel
theorem dX14_told_91 : decode cX14_told 91 = .ok (.ireturn, 1) := by decide +kernel
theorem dX14_told_92 : decode cX14_told 92 = .ok (.bipush (-2), 2) := by decide +kernel
theorem dX14_told_94 : decode cX14_told 94 = .ok (.ireturn, 1) := by decide +kernel
/-- InferResolveModel.told(I)I -/
noncomputable def qc_44 : pr_Co := [(0, (.inl (po_aload 0 1))), (1, (.inl (po_push 0 2))), (2, (.inl (po_puti 14 0 5))), (5, (.inl (po_iload 1 6))), (6, (.inl (po_tab [48, 56, 61, 69, 74, 79, 84]))), (48, (.inl (po_aload 0 49))), (49, (.inl (po_get 14 5 52))), (52, (.inl (po_get 12 0 55))), (55, (.inr (re_i))), (56, (.inl (po_aload 0 57))), (57, (.inl (po_get 14 8 60))), (60, (.inr (re_i))), (61, (.inl (po_aload 0 62))), (62, (.inl (po_get 14 20 65))), (65, (.inl (po_get 11 0 68))), (68, (.inr (re_i))), (69, (.inl (po_aload 0 70))), (70, (.inl (po_get 14 22 73))), (73, (.inr (re_i))), (74, (.inl (po_aload 0 75))), (75, (.inl (po_get 14 23 78))), (78, (.inr (re_i))), (79, (.inl (po_aload 0 80))), (80, (.inl (po_get 14 10 83))), (83, (.inr (re_i))), (84, (.inl (po_aload 0 85))), (85, (.inl (po_cv 35 0 14 3 88))), (88, (.inl (po_cs 106 1 1 91))), (91, (.inr (re_i))), (92, (.inl (po_push (-2) 94))), (94, (.inr (re_i)))]
set_option maxRecDepth 100000 in
set_option maxHeartbeats 4000000 in
theorem qs_44 : pr_aS pr_ms m_44 [(0, (.inl (po_aload 0 1))), (1, (.inl (po_push 0 2))), (2, (.inl (po_puti 14 0 5))), (5, (.inl (po_iload 1 6))), (6, (.inl (po_tab [48, 56, 61, 69, 74, 79, 84]))), (48, (.inl (po_aload 0 49))), (49, (.inl (po_get 14 5 52))), (52, (.inl (po_get 12 0 55))), (55, (.inr (re_i))), (56, (.inl (po_aload 0 57))), (57, (.inl (po_get 14 8 60))), (60, (.inr (re_i))), (61, (.inl (po_aload 0 62))), (62, (.inl (po_get 14 20 65))), (65, (.inl (po_get 11 0 68))), (68, (.inr (re_i))), (69, (.inl (po_aload 0 70))), (70, (.inl (po_get 14 22 73))), (73, (.inr (re_i))), (74, (.inl (po_aload 0 75))), (75, (.inl (po_get 14 23 78))), (78, (.inr (re_i))), (79, (.inl (po_aload 0 80))), (80, (.inl (po_get 14 10 83))), (83, (.inr (re_i))), (84, (.inl (po_aload 0 85))), (85, (.inl (po_cv 35 0 14 3 88))), (88, (.inl (po_cs 106 1 1 91))), (91, (.inr (re_i))), (92, (.inl (po_push (-2) 94))), (94, (.inr (re_i)))] := pr_aS_c (pr_eI (os_aload_n (q := 0) dX14_told_0)) (pr_aS_c (pr_eI (os_iconst dX14_told_1 (by decide +kernel))) (pr_aS_c (pr_eI (os_puti (kf := 0) dX14_told_2 cf_14 (by decide) wd_206 rfl rfl)) (pr_aS_c (pr_eI (os_iload_n (q := 1) dX14_told_5)) (pr_aS_c (pr_eI (os_tab dX14_told_6 (by decide) (by decide +kernel))) (pr_aS_c (pr_eI (os_aload_n (q := 0) dX14_told_48)) (pr_aS_c (pr_eI (os_get (kf := 5) dX14_told_49 cf_14 (by decide) wd_143)) (pr_aS_c (pr_eI (os_get (kf := 0) dX14_told_52 cf_12 (by decide) wd_177)) (pr_aS_c (pr_eR (rs_i dX14_told_55 rfl)) (pr_aS_c (pr_eI (os_aload_n (q := 0) dX14_told_56)) (pr_aS_c (pr_eI (os_get (kf := 8) dX14_told_57 cf_14 (by decide) wd_216)) (pr_aS_c (pr_eR (rs_i dX14_told_60 rfl)) (pr_aS_c (pr_eI (os_aload_n (q := 0) dX14_told_61)) (pr_aS_c (pr_eI (os_get (kf := 20) dX14_told_62 cf_14 (by decide) wd_154)) (pr_aS_c (pr_eI (os_get (kf := 0) dX14_told_65 cf_11 (by decide) wd_217)) (pr_aS_c (pr_eR (rs_i dX14_told_68 rfl)) (pr_aS_c (pr_eI (os_aload_n (q := 0) dX14_told_69)) (pr_aS_c (pr_eI (os_get (kf := 22) dX14_told_70 cf_14 (by decide) wd_218)) (pr_aS_c (pr_eR (rs_i dX14_told_73 rfl)) (pr_aS_c (pr_eI (os_aload_n (q := 0) dX14_told_74)) (pr_aS_c (pr_eI (os_get (kf := 23) dX14_told_75 cf_14 (by decide) wd_219)) (pr_aS_c (pr_eR (rs_i dX14_told_78 rfl)) (pr_aS_c (pr_eI (os_aload_n (q := 0) dX14_told_79)) (pr_aS_c (pr_eI (os_get (kf := 10) dX14_told_80 cf_14 (by decide) wd_185)) (pr_aS_c (pr_eR (rs_i dX14_told_83 rfl)) (pr_aS_c (pr_eI (os_aload_n (q := 0) dX14_told_84)) (pr_aS_c (pr_eI (os_cv dX14_told_85 (k := 35) rfl rfl cal_35 wd_249 wd_251 wd_250 rfl)) (pr_aS_c (pr_eI (os_cs dX14_told_88 (k := 106) rfl rfl cal_106 wd_262 wd_107)) (pr_aS_c (pr_eR (rs_i dX14_told_91 rfl)) (pr_aS_c (pr_eI (os_bipush dX14_told_92 (by decide +kernel))) (pr_aS_c (pr_eR (rs_i dX14_told_94 rfl)) trivial))))))))))))))))))))))))))))))
theorem dX14_join_0 : decode cX14_join 0 = .ok (.aload_n 0, 1) := by decide +kernel
theorem dX14_join_1 : decode cX14_join 1 = .ok (.iconst 0, 1) := by decide +kernel
theorem dX14_join_2 : decode cX14_join 2 = .ok (.putfield 1, 3) := by decide +kernel
theorem dX14_join_5 : decode cX14_join 5 = .ok (.aload_n 0, 1) := by decide +kernel
theorem dX14_join_6 : decode cX14_join 6 = .ok (.invokevirtual 368, 3) := by decide +kernel
theorem dX14_join_9 : decode cX14_join 9 = .ok (.aload_n 0, 1) := by decide +kernel
theorem dX14_join_10 : decode cX14_join 10 = .ok (.invokevirtual 269, 3) := by decide +kernel
theorem dX14_join_13 : decode cX14_join 13 = .ok (.aload_n 0, 1) := by decide +kernel
theorem dX14_join_14 : decode cX14_join 14 = .ok (.iconst 0, 1) := by decide +kernel
theorem dX14_join_15 : decode cX14_join 15 = .ok (.putfield 406, 3) := by decide +kernel
theorem dX14_join_18 : decode cX14_join 18 = .ok (.iconst 1, 1) := by decide +kernel
theorem dX14_join_19 : decode cX14_join 19 = .ok (.istore_n 1, 1) := by decide +kernel
theorem dX14_join_20 : decode cX14_join 20 = .ok (.iload_n 1, 1) := by decide +kernel
theorem dX14_join_21 : decode cX14_join 21 = .ok (.ifCond .eq 95, 3) := by decide +kernel
theorem dX14_join_24 : decode cX14_join 24 = .ok (.aload_n 0, 1) := by decide +kernel
theorem dX14_join_25 : decode cX14_join 25 = .ok (.invokevirtual 219, 3) := by decide +kernel
theorem dX14_join_28 : decode cX14_join 28 = .ok (.ifCond .eq 88, 3) := by decide +kernel
theorem dX14_join_31 : decode cX14_join 31 = .ok (.aload_n 0, 1) := by decide +kernel
theorem dX14_join_32 : decode cX14_join 32 = .ok (.getfield 406, 3) := by decide +kernel
theorem dX14_join_35 : decode cX14_join 35 = .ok (.bipush 6, 2) := by decide +kernel
theorem dX14_join_37 : decode cX14_join 37 = .ok (.if_icmp .ne 42, 3) := by decide +kernel
theorem dX14_join_79 : decode cX14_join 79 = .ok (.aload_n 0, 1) := by decide +kernel
theorem dX14_join_80 : decode cX14_join 80 = .ok (.aload_n 0, 1) := by decide +kernel
theorem dX14_join_81 : decode cX14_join 81 = .ok (.aload_n 0, 1) := by decide +kernel
theorem dX14_join_82 : decode cX14_join 82 = .ok (.getfield 43, 3) := by decide +kernel
theorem dX14_join_85 : decode cX14_join 85 = .ok (.aload_n 0, 1) := by decide +kernel
theorem dX14_join_86 : decode cX14_join 86 = .ok (.getfield 20, 3) := by decide +kernel
theorem dX14_join_89 : decode cX14_join 89 = .ok (.iconst (-1), 1) := by decide +kernel
theorem dX14_join_90 : decode cX14_join 90 = .ok (.iconst 0, 1) := by decide +kernel
theorem dX14_join_91 : decode cX14_join 91 = .ok (.iconst 0, 1) := by decide +kernel
theorem dX14_join_92 : decode cX14_join 92 = .ok (.invokevirtual 245, 3) := by decide +kernel
theorem dX14_join_95 : decode cX14_join 95 = .ok (.invokevirtual 415, 3) := by decide +kernel
theorem dX14_join_98 : decode cX14_join 98 = .ok (.aload_n 0, 1) := by decide +kernel
theorem dX14_join_99 : decode cX14_join 99 = .ok (.bipush 44, 2) := by decide +kernel
theorem dX14_join_101 : decode cX14_join 101 = .ok (.invokevirtual 223, 3) := by decide +kernel
theorem dX14_join_104 : decode cX14_join 104 = .ok (.istore_n 1, 1) := by decide +kernel
theorem dX14_join_105 : decode cX14_join 105 = .ok (.iload_n 1, 1) := by decide +kernel
theorem dX14_join_106 : decode cX14_join 106 = .ok (.ifCond .eq (-86), 3) := by decide +kernel
theorem dX14_join_116 : decode cX14_join 116 = .ok (.aload_n 0, 1) := by decide +kernel
theorem dX14_join_117 : decode cX14_join 117 = .ok (.invokevirtual 219, 3) := by decide +kernel
theorem dX14_join_120 : decode cX14_join 120 = .ok (.ifCond .eq 14, 3) := by decide +kernel
theorem dX14_join_134 : decode cX14_join 134 = .ok (.aload_n 0, 1) := by decide +kernel
theorem dX14_join_135 : decode cX14_join 135 = .ok (.invokevirtual 274, 3) := by decide +kernel
theorem dX14_join_138 : decode cX14_join 138 = .ok (.istore_n 2, 1) := by decide +kernel
theorem dX14_join_139 : decode cX14_join 139 = .ok (.iload_n 2, 1) := by decide +kernel
theorem dX14_join_140 : decode cX14_join 140 = .ok (.ifCond .ge 7, 3) := by decide +kernel
theorem dX14_join_143 : decode cX14_join 143 = .ok (.iload_n 2, 1) := by decide +kernel
theorem dX14_join_144 : decode cX14_join 144 = .ok (.goto 11, 3) := by decide +kernel
theorem dX14_join_155 : decode cX14_join 155 = .ok (.ireturn, 1) := by decide +kernel
/-- InferResolveModel.join()I -/
noncomputable def qc_45 : pr_Co := [(0, (.inl (po_aload 0 1))), (1, (.inl (po_push 0 2))), (2, (.inl (po_puti 14 0 5))), (5, (.inl (po_aload 0 6))), (6, (.inl (po_cv 31 0 14 4 9))), (9, (.inl (po_aload 0 10))), (10, (.inl (po_cv 24 0 14 1 13))), (13, (.inl (po_aload 0 14))), (14, (.inl (po_push 0 15))), (15, (.inl (po_puti 14 36 18))), (18, (.inl (po_push 1 19))), (19, (.inl (po_istore 1 20))), (20, (.inl (po_iload 1 21))), (21, (.inl (po_if1 (fun x => decide (x = 0)) 116 24))), (24, (.inl (po_aload 0 25))), (25, (.inl (po_cv 20 0 14 1 28))), (28, (.inl (po_if1 (fun x => decide (x = 0)) 116 31))), (31, (.inl (po_aload 0 32))), (32, (.inl (po_get 14 36 35))), (35, (.inl (po_push 6 37))), (37, (.inl (po_if2 (fun x y => !decide (x = y)) 79 40))), (79, (.inl (po_aload 0 80))), (80, (.inl (po_aload 0 81))), (81, (.inl (po_aload 0 82))), (82, (.inl (po_get 14 5 85))), (85, (.inl (po_aload 0 86))), (86, (.inl (po_get 14 1 89))), (89, (.inl (po_push (-1) 90))), (90, (.inl (po_push 0 91))), (91, (.inl (po_push 0 92))), (92, (.inl (po_cv 26 5 14 10 95))), (95, (.inl (po_cv 37 1 14 2 98))), (98, (.inl (po_aload 0 99))), (99, (.inl (po_push 44 101))), (101, (.inl (po_cv 22 1 14 2 104))), (104, (.inl (po_istore 1 105))), (105, (.inl (po_iload 1 106))), (106, (.inl (po_if1 (fun x => decide (x = 0)) 20 109))), (116, (.inl (po_aload 0 117))), (117, (.inl (po_cv 20 0 14 1 120))), (120, (.inl (po_if1 (fun x => decide (x = 0)) 134 123))), (134, (.inl (po_aload 0 135))), (135, (.inl (po_cv 25 0 14 1 138))), (138, (.inl (po_istore 2 139))), (139, (.inl (po_iload 2 140))), (140, (.inl (po_if1 (fun x => decide (0 ≤ x)) 147 143))), (143, (.inl (po_iload 2 144))), (144, (.inl (po_goto 155))), (155, (.inr (re_i)))]
set_option maxRecDepth 100000 in
set_option maxHeartbeats 4000000 in
theorem qs_45 : pr_aS pr_ms m_45 [(0, (.inl (po_aload 0 1))), (1, (.inl (po_push 0 2))), (2, (.inl (po_puti 14 0 5))), (5, (.inl (po_aload 0 6))), (6, (.inl (po_cv 31 0 14 4 9))), (9, (.inl (po_aload 0 10))), (10, (.inl (po_cv 24 0 14 1 13))), (13, (.inl (po_aload 0 14))), (14, (.inl (po_push 0 15))), (15, (.inl (po_puti 14 36 18))), (18, (.inl (po_push 1 19))), (19, (.inl (po_istore 1 20))), (20, (.inl (po_iload 1 21))), (21, (.inl (po_if1 (fun x => decide (x = 0)) 116 24))), (24, (.inl (po_aload 0 25))), (25, (.inl (po_cv 20 0 14 1 28))), (28, (.inl (po_if1 (fun x => decide (x = 0)) 116 31))), (31, (.inl (po_aload 0 32))), (32, (.inl (po_get 14 36 35))), (35, (.inl (po_push 6 37))), (37, (.inl (po_if2 (fun x y => !decide (x = y)) 79 40))), (79, (.inl (po_aload 0 80))), (80, (.inl (po_aload 0 81))), (81, (.inl (po_aload 0 82))), (82, (.inl (po_get 14 5 85))), (85, (.inl (po_aload 0 86))), (86, (.inl (po_get 14 1 89))), (89, (.inl (po_push (-1) 90))), (90, (.inl (po_push 0 91))), (91, (.inl (po_push 0 92))), (92, (.inl (po_cv 26 5 14 10 95))), (95, (.inl (po_cv 37 1 14 2 98))), (98, (.inl (po_aload 0 99))), (99, (.inl (po_push 44 101))), (101, (.inl (po_cv 22 1 14 2 104))), (104, (.inl (po_istore 1 105))), (105, (.inl (po_iload 1 106))), (106, (.inl (po_if1 (fun x => decide (x = 0)) 20 109))), (116, (.inl (po_aload 0 117))), (117, (.inl (po_cv 20 0 14 1 120))), (120, (.inl (po_if1 (fun x => decide (x = 0)) 134 123))), (134, (.inl (po_aload 0 135))), (135, (.inl (po_cv 25 0 14 1 138))), (138, (.inl (po_istore 2 139))), (139, (.inl (po_iload 2 140))), (140, (.inl (po_if1 (fun x => decide (0 ≤ x)) 147 143))), (143, (.inl (po_iload 2 144))), (144, (.inl (po_goto 155))), (155, (.inr (re_i)))] := pr_aS_c (pr_eI (os_aload_n (q := 0) dX14_join_0)) (pr_aS_c (pr_eI (os_iconst dX14_join_1 (by decide +kernel))) (pr_aS_c (pr_eI (os_puti (kf := 0) dX14_join_2 cf_14 (by decide) wd_206 rfl rfl)) (pr_aS_c (pr_eI (os_aload_n (q := 0) dX14_join_5)) (pr_aS_c (pr_eI (os_cv dX14_join_6 (k := 31) rfl rfl cal_31 wd_234 wd_236 wd_235 rfl)) (pr_aS_c (pr_eI (os_aload_n (q := 0) dX14_join_9)) (pr_aS_c (pr_eI (os_cv dX14_join_10 (k := 24) rfl rfl cal_24 wd_207 wd_209 wd_208 rfl)) (pr_aS_c (pr_eI (os_aload_n (q := 0) dX14_join_13)) (pr_aS_c (pr_eI (os_iconst dX14_join_14 (by decide +kernel))) (pr_aS_c (pr_eI (os_puti (kf := 36) dX14_join_15 cf_14 (by decide) wd_252 rfl rfl)) (pr_aS_c (pr_eI (os_iconst dX14_join_18 (by decide +kernel))) (pr_aS_c (pr_eI (os_istore_n (q := 1) dX14_join_19 (by decide))) (pr_aS_c (pr_eI (os_iload_n (q := 1) dX14_join_20)) (pr_aS_c (pr_eI (os_if_eq dX14_join_21 (by decide))) (pr_aS_c (pr_eI (os_aload_n (q := 0) dX14_join_24)) (pr_aS_c (pr_eI (os_cv dX14_join_25 (k := 20) rfl rfl cal_20 wd_193 wd_195 wd_194 rfl)) (pr_aS_c (pr_eI (os_if_eq dX14_join_28 (by decide))) (pr_aS_c (pr_eI (os_aload_n (q := 0) dX14_join_31)) (pr_aS_c (pr_eI (os_get (kf := 36) dX14_join_32 cf_14 (by decide) wd_252)) (pr_aS_c (pr_eI (os_bipush dX14_join_35 (by decide +kernel))) (pr_aS_c (pr_eI (os_icmp_ne dX14_join_37 (by decide))) (pr_aS_c (pr_eI (os_aload_n (q := 0) dX14_join_79)) (pr_aS_c (pr_eI (os_aload_n (q := 0) dX14_join_80)) (pr_aS_c (pr_eI (os_aload_n (q := 0) dX14_join_81)) (pr_aS_c (pr_eI (os_get (kf := 5) dX14_join_82 cf_14 (by decide) wd_143)) (pr_aS_c (pr_eI (os_aload_n (q := 0) dX14_join_85)) (pr_aS_c (pr_eI (os_get (kf := 1) dX14_join_86 cf_14 (by decide) wd_136)) (pr_aS_c (pr_eI (os_iconst dX14_join_89 (by decide +kernel))) (pr_aS_c (pr_eI (os_iconst dX14_join_90 (by decide +kernel))) (pr_aS_c (pr_eI (os_iconst dX14_join_91 (by decide +kernel))) (pr_aS_c (pr_eI (os_cv dX14_join_92 (k := 26) rfl rfl cal_26 wd_256 wd_258 wd_257 rfl)) (pr_aS_c (pr_eI (os_cv dX14_join_95 (k := 37) rfl rfl cal_37 wd_263 wd_265 wd_264 rfl)) (pr_aS_c (pr_eI (os_aload_n (q := 0) dX14_join_98)) (pr_aS_c (pr_eI (os_bipush dX14_join_99 (by decide +kernel))) (pr_aS_c (pr_eI (os_cv dX14_join_101 (k := 22) rfl rfl cal_22 wd_196 wd_198 wd_197 rfl)) (pr_aS_c (pr_eI (os_istore_n (q := 1) dX14_join_104 (by decide))) (pr_aS_c (pr_eI (os_iload_n (q := 1) dX14_join_105)) (pr_aS_c (pr_eI (os_if_eq dX14_join_106 (by decide))) (pr_aS_c (pr_eI (os_aload_n (q := 0) dX14_join_116)) (pr_aS_c (pr_eI (os_cv dX14_join_117 (k := 20) rfl rfl cal_20 wd_193 wd_195 wd_194 rfl)) (pr_aS_c (pr_eI (os_if_eq dX14_join_120 (by decide))) (pr_aS_c (pr_eI (os_aload_n (q := 0) dX14_join_134)) (pr_aS_c (pr_eI (os_cv dX14_join_135 (k := 25) rfl rfl cal_25 wd_210 wd_212 wd_211 rfl)) (pr_aS_c (pr_eI (os_istore_n (q := 2) dX14_join_138 (by decide))) (pr_aS_c (pr_eI (os_iload_n (q := 2) dX14_join_139)) (pr_aS_c (pr_eI (os_if_ge dX14_join_140 (by decide))) (pr_aS_c (pr_eI (os_iload_n (q := 2) dX14_join_143)) (pr_aS_c (pr_eI (os_goto dX14_join_144 (by decide))) (pr_aS_c (pr_eR (rs_i dX14_join_155 rfl)) trivial))))))))))))))))))))))))))))))))))))))))))))))))
theorem dX14_below_0 : decode cX14_below 0 = .ok (.aload_n 0, 1) := by decide +kernel
theorem dX14_below_1 : decode cX14_below 1 = .ok (.iconst 0, 1) := by decide +kernel
theorem dX14_below_2 : decode cX14_below 2 = .ok (.putfield 1, 3) := by decide +kernel
theorem dX14_below_5 : decode cX14_below 5 = .ok (.aload_n 0, 1) := by decide +kernel
theorem dX14_below_6 : decode cX14_below 6 = .ok (.invokevirtual 368, 3) := by decide +kernel
theorem dX14_below_9 : decode cX14_below 9 = .ok (.aload_n 0, 1) := by decide +kernel
theorem dX14_below_10 : decode cX14_below 10 = .ok (.invokevirtual 269, 3) := by decide +kernel
theorem dX14_below_13 : decode cX14_below 13 = .ok (.aload_n 0, 1) := by decide +kernel
theorem dX14_below_14 : decode cX14_below 14 = .ok (.aload_n 0, 1) := by decide +kernel
theorem dX14_below_15 : decode cX14_below 15 = .ok (.getfield 43, 3) := by decide +kernel
theorem dX14_below_18 : decode cX14_below 18 = .ok (.aload_n 0, 1) := by decide +kernel
theorem dX14_below_19 : decode cX14_below 19 = .ok (.getfield 20, 3) := by decide +kernel
theorem dX14_below_22 : decode cX14_below 22 = .ok (.iconst (-1), 1) := by decide +kernel
theorem dX14_below_23 : decode cX14_below 23 = .ok (.iconst 0, 1) := by decide +kernel
theorem dX14_below_24 : decode cX14_below 24 = .ok (.iconst 0, 1) := by decide +kernel
theorem dX14_below_25 : decode cX14_below 25 = .ok (.invokevirtual 245, 3) := by decide +kernel
theorem dX14_below_28 : decode cX14_below 28 = .ok (.istore_n 1, 1) := by decide +kernel
theorem dX14_below_29 : decode cX14_below 29 = .ok (.aload_n 0, 1) := by decide +kernel
theorem dX14_below_30 : decode cX14_below 30 = .ok (.bipush 58, 2) := by decide +kernel
theorem dX14_below_32 : decode cX14_below 32 = .ok (.invokevirtual 249, 3) := by decide +kernel
theorem dX14_below_35 : decode cX14_below 35 = .ok (.aload_n 0, 1) := by decide +kernel
theorem dX14_below_36 : decode cX14_below 36 = .ok (.aload_n 0, 1) := by decide +kernel
theorem dX14_below_37 : decode cX14_below 37 = .ok (.getfield 43, 3) := by decide +kernel
theorem dX14_below_40 : decode cX14_below 40 = .ok (.aload_n 0, 1) := by decide +kernel
theorem dX14_below_41 : decode cX14_below 41 = .ok (.getfield 20, 3) := by decide +kernel
theorem dX14_below_44 : decode cX14_below 44 = .ok (.iconst (-1), 1) := by decide +kernel
theorem dX14_below_45 : decode cX14_below 45 = .ok (.iconst 0, 1) := by decide +kernel
theorem dX14_below_46 : decode cX14_below 46 = .ok (.iconst 0, 1) := by decide +kernel
theorem dX14_below_47 : decode cX14_below 47 = .ok (.invokevirtual 245, 3) := by decide +kernel
theorem dX14_below_50 : decode cX14_below 50 = .ok (.istore_n 2, 1) := by decide +kernel
theorem dX14_below_51 : decode cX14_below 51 = .ok (.aload_n 0, 1) := by decide +kernel
theorem dX14_below_52 : decode cX14_below 52 = .ok (.invokevirtual 219, 3) := by decide +kernel
theorem dX14_below_55 : decode cX14_below 55 = .ok (.ifCond .eq 14, 3) := by decide +kernel
theorem dX14_below_69 : decode cX14_below 69 = .ok (.aload_n 0, 1) := by decide +kernel
theorem dX14_below_70 : decode cX14_below 70 = .ok (.invokevirtual 274, 3) := by decide +kernel
theorem dX14_below_73 : decode cX14_below 73 = .ok (.istore_n 3, 1) := by decide +kernel
theorem dX14_below_74 : decode cX14_below 74 = .ok (.iload_n 3, 1) := by decide +kernel
theorem dX14_below_75 : decode cX14_below 75 = .ok (.ifCond .ge 7, 3) := by decide +kernel
theorem dX14_below_78 : decode cX14_below 78 = .ok (.iload_n 3, 1) := by decide +kernel
theorem dX14_below_79 : decode cX14_below 79 = .ok (.goto 17, 3) := by decide +kernel
theorem dX14_below_96 : decode cX14_below 96 = .ok (.ireturn, 1) := by decide +kernel
/-- InferResolveModel.below()I -/
noncomputable def qc_46 : pr_Co := [(0, (.inl (po_aload 0 1))), (1, (.inl (po_push 0 2))), (2, (.inl (po_puti 14 0 5))), (5, (.inl (po_aload 0 6))), (6, (.inl (po_cv 31 0 14 4 9))), (9, (.inl (po_aload 0 10))), (10, (.inl (po_cv 24 0 14 1 13))), (13, (.inl (po_aload 0 14))), (14, (.inl (po_aload 0 15))), (15, (.inl (po_get 14 5 18))), (18, (.inl (po_aload 0 19))), (19, (.inl (po_get 14 1 22))), (22, (.inl (po_push (-1) 23))), (23, (.inl (po_push 0 24))), (24, (.inl (po_push 0 25))), (25, (.inl (po_cv 26 5 14 10 28))), (28, (.inl (po_istore 1 29))), (29, (.inl (po_aload 0 30))), (30, (.inl (po_push 58 32))), (32, (.inl (po_cv 23 1 14 2 35))), (35, (.inl (po_aload 0 36))), (36, (.inl (po_aload 0 37))), (37, (.inl (po_get 14 5 40))), (40, (.inl (po_aload 0 41))), (41, (.inl (po_get 14 1 44))), (44, (.inl (po_push (-1) 45))), (45, (.inl (po_push 0 46))), (46, (.inl (po_push 0 47))), (47, (.inl (po_cv 26 5 14 10 50))), (50, (.inl (po_istore 2 51))), (51, (.inl (po_aload 0 52))), (52, (.inl (po_cv 20 0 14 1 55))), (55, (.inl (po_if1 (fun x => decide (x = 0)) 69 58))), (69, (.inl (po_aload 0 70))), (70, (.inl (po_cv 25 0 14 1 73))), (73, (.inl (po_istore 3 74))), (74, (.inl (po_iload 3 75))), (75, (.inl (po_if1 (fun x => decide (0 ≤ x)) 82 78))), (78, (.inl (po_iload 3 79))), (79, (.inl (po_goto 96))), (96, (.inr (re_i)))]
set_option maxRecDepth 100000 in
set_option maxHeartbeats 4000000 in
theorem qs_46 : pr_aS pr_ms m_46 [(0, (.inl (po_aload 0 1))), (1, (.inl (po_push 0 2))), (2, (.inl (po_puti 14 0 5))), (5, (.inl (po_aload 0 6))), (6, (.inl (po_cv 31 0 14 4 9))), (9, (.inl (po_aload 0 10))), (10, (.inl (po_cv 24 0 14 1 13))), (13, (.inl (po_aload 0 14))), (14, (.inl (po_aload 0 15))), (15, (.inl (po_get 14 5 18))), (18, (.inl (po_aload 0 19))), (19, (.inl (po_get 14 1 22))), (22, (.inl (po_push (-1) 23))), (23, (.inl (po_push 0 24))), (24, (.inl (po_push 0 25))), (25, (.inl (po_cv 26 5 14 10 28))), (28, (.inl (po_istore 1 29))), (29, (.inl (po_aload 0 30))), (30, (.inl (po_push 58 32))), (32, (.inl (po_cv 23 1 14 2 35))), (35, (.inl (po_aload 0 36))), (36, (.inl (po_aload 0 37))), (37, (.inl (po_get 14 5 40))), (40, (.inl (po_aload 0 41))), (41, (.inl (po_get 14 1 44))), (44, (.inl (po_push (-1) 45))), (45, (.inl (po_push 0 46))), (46, (.inl (po_push 0 47))), (47, (.inl (po_cv 26 5 14 10 50))), (50, (.inl (po_istore 2 51))), (51, (.inl (po_aload 0 52))), (52, (.inl (po_cv 20 0 14 1 55))), (55, (.inl (po_if1 (fun x => decide (x = 0)) 69 58))), (69, (.inl (po_aload 0 70))), (70, (.inl (po_cv 25 0 14 1 73))), (73, (.inl (po_istore 3 74))), (74, (.inl (po_iload 3 75))), (75, (.inl (po_if1 (fun x => decide (0 ≤ x)) 82 78))), (78, (.inl (po_iload 3 79))), (79, (.inl (po_goto 96))), (96, (.inr (re_i)))] := pr_aS_c (pr_eI (os_aload_n (q := 0) dX14_below_0)) (pr_aS_c (pr_eI (os_iconst dX14_below_1 (by decide +kernel))) (pr_aS_c (pr_eI (os_puti (kf := 0) dX14_below_2 cf_14 (by decide) wd_206 rfl rfl)) (pr_aS_c (pr_eI (os_aload_n (q := 0) dX14_below_5)) (pr_aS_c (pr_eI (os_cv dX14_below_6 (k := 31) rfl rfl cal_31 wd_234 wd_236 wd_235 rfl)) (pr_aS_c (pr_eI (os_aload_n (q := 0) dX14_below_9)) (pr_aS_c (pr_eI (os_cv dX14_below_10 (k := 24) rfl rfl cal_24 wd_207 wd_209 wd_208 rfl)) (pr_aS_c (pr_eI (os_aload_n (q := 0) dX14_below_13)) (pr_aS_c (pr_eI (os_aload_n (q := 0) dX14_below_14)) (pr_aS_c (pr_eI (os_get (kf := 5) dX14_below_15 cf_14 (by decide) wd_143)) (pr_aS_c (pr_eI (os_aload_n (q := 0) dX14_below_18)) (pr_aS_c (pr_eI (os_get (kf := 1) dX14_below_19 cf_14 (by decide) wd_136)) (pr_aS_c (pr_eI (os_iconst dX14_below_22 (by decide +kernel))) (pr_aS_c (pr_eI (os_iconst dX14_below_23 (by decide +kernel))) (pr_aS_c (pr_eI (os_iconst dX14_below_24 (by decide +kernel))) (pr_aS_c (pr_eI (os_cv dX14_below_25 (k := 26) rfl rfl cal_26 wd_256 wd_258 wd_257 rfl)) (pr_aS_c (pr_eI (os_istore_n (q := 1) dX14_below_28 (by decide))) (pr_aS_c (pr_eI (os_aload_n (q := 0) dX14_below_29)) (pr_aS_c (pr_eI (os_bipush dX14_below_30 (by decide +kernel))) (pr_aS_c (pr_eI (os_cv dX14_below_32 (k := 23) rfl rfl cal_23 wd_266 wd_268 wd_267 rfl)) (pr_aS_c (pr_eI (os_aload_n (q := 0) dX14_below_35)) (pr_aS_c (pr_eI (os_aload_n (q := 0) dX14_below_36)) (pr_aS_c (pr_eI (os_get (kf := 5) dX14_below_37 cf_14 (by decide) wd_143)) (pr_aS_c (pr_eI (os_aload_n (q := 0) dX14_below_40)) (pr_aS_c (pr_eI (os_get (kf := 1) dX14_below_41 cf_14 (by decide) wd_136)) (pr_aS_c (pr_eI (os_iconst dX14_below_44 (by decide +kernel))) (pr_aS_c (pr_eI (os_iconst dX14_below_45 (by decide +kernel))) (pr_aS_c (pr_eI (os_iconst dX14_below_46 (by decide +kernel))) (pr_aS_c (pr_eI (os_cv dX14_below_47 (k := 26) rfl rfl cal_26 wd_256 wd_258 wd_257 rfl)) (pr_aS_c (pr_eI (os_istore_n (q := 2) dX14_below_50 (by decide))) (pr_aS_c (pr_eI (os_aload_n (q := 0) dX14_below_51)) (pr_aS_c (pr_eI (os_cv dX14_below_52 (k := 20) rfl rfl cal_20 wd_193 wd_195 wd_194 rfl)) (pr_aS_c (pr_eI (os_if_eq dX14_below_55 (by decide))) (pr_aS_c (pr_eI (os_aload_n (q := 0) dX14_below_69)) (pr_aS_c (pr_eI (os_cv dX14_below_70 (k := 25) rfl rfl cal_25 wd_210 wd_212 wd_211 rfl)) (pr_aS_c (pr_eI (os_istore_n (q := 3) dX14_below_73 (by decide))) (pr_aS_c (pr_eI (os_iload_n (q := 3) dX14_below_74)) (pr_aS_c (pr_eI (os_if_ge dX14_below_75 (by decide))) (pr_aS_c (pr_eI (os_iload_n (q := 3) dX14_below_78)) (pr_aS_c (pr_eI (os_goto dX14_below_79 (by decide))) (pr_aS_c (pr_eR (rs_i dX14_below_96 rfl)) trivial))))))))))))))))))))))))))))))))))))))))
theorem dX0_init_0 : decode cX0_init 0 = .ok (.aload_n 0, 1) := by decide +kernel
theorem dX0_init_1 : decode cX0_init 1 = .ok (.invokespecial 3, 3) := by decide +kernel
theorem dX0_init_4 : decode cX0_init 4 = .ok (.aload_n 0, 1) := by decide +kernel
theorem dX0_init_5 : decode cX0_init 5 = .ok (.new 9, 3) := by decide +kernel
theorem dX0_init_8 : decode cX0_init 8 = .ok (.dup, 1) := by decide +kernel
theorem dX0_init_9 : decode cX0_init 9 = .ok (.sipush 256, 3) := by decide +kernel
theorem dX0_init_12 : decode cX0_init 12 = .ok (.invokespecial 11, 3) := by decide +kernel
theorem dX0_init_15 : decode cX0_init 15 = .ok (.putfield 14, 3) := by decide +kernel
theorem dX0_init_18 : decode cX0_init 18 = .ok (.aload_n 0, 1) := by decide +kernel
theorem dX0_init_19 : decode cX0_init 19 = .ok (.new 9, 3) := by decide +kernel
theorem dX0_init_22 : decode cX0_init 22 = .ok (.dup, 1) := by decide +kernel
theorem dX0_init_23 : decode cX0_init 23 = .ok (.bipush 32, 2) := by decide +kernel
theorem dX0_init_25 : decode cX0_init 25 = .ok (.invokespecial 11, 3) := by decide +kernel
theorem dX0_init_28 : decode cX0_init 28 = .ok (.putfield 20, 3) := by decide +kernel
theorem dX0_init_31 : decode cX0_init 31 = .ok (.aload_n 0, 1) := by decide +kernel
theorem dX0_init_32 : decode cX0_init 32 = .ok (.new 9, 3) := by decide +kernel
theorem dX0_init_35 : decode cX0_init 35 = .ok (.dup, 1) := by decide +kernel
theorem dX0_init_36 : decode cX0_init 36 = .ok (.bipush 32, 2) := by decide +kernel
theorem dX0_init_38 : decode cX0_init 38 = .ok (.invokespecial 11, 3) := by decide +kernel
theorem dX0_init_41 : decode cX0_init 41 = .ok (.putfield 23, 3) := by decide +kernel
theorem dX0_init_44 : decode cX0_init 44 = .ok (.aload_n 0, 1) := by decide +kernel
theorem dX0_init_45 : decode cX0_init 45 = .ok (.new 9, 3) := by decide +kernel
theorem dX0_init_48 : decode cX0_init 48 = .ok (.dup, 1) := by decide +kernel
theorem dX0_init_49 : decode cX0_init 49 = .ok (.bipush 32, 2) := by decide +kernel
theorem dX0_init_51 : decode cX0_init 51 = .ok (.invokespecial 11, 3) := by decide +kernel
theorem dX0_init_54 : decode cX0_init 54 = .ok (.putfield 26, 3) := by decide +kernel
theorem dX0_init_57 : decode cX0_init 57 = .ok (.aload_n 0, 1) := by decide +kernel
theorem dX0_init_58 : decode cX0_init 58 = .ok (.new 9, 3) := by decide +kernel
theorem dX0_init_61 : decode cX0_init 61 = .ok (.dup, 1) := by decide +kernel
theorem dX0_init_62 : decode cX0_init 62 = .ok (.bipush 32, 2) := by decide +kernel
theorem dX0_init_64 : decode cX0_init 64 = .ok (.invokespecial 11, 3) := by decide +kernel
theorem dX0_init_67 : decode cX0_init 67 = .ok (.putfield 29, 3) := by decide +kernel
theorem dX0_init_70 : decode cX0_init 70 = .ok (.aload_n 0, 1) := by decide +kernel
theorem dX0_init_71 : decode cX0_init 71 = .ok (.new 9, 3) := by decide +kernel
theorem dX0_init_74 : decode cX0_init 74 = .ok (.dup, 1) := by decide +kernel
theorem dX0_init_75 : decode cX0_init 75 = .ok (.bipush 32, 2) := by decide +kernel
theorem dX0_init_77 : decode cX0_init 77 = .ok (.invokespecial 11, 3) := by decide +kernel
theorem dX0_init_80 : decode cX0_init 80 = .ok (.putfield 32, 3) := by decide +kernel
theorem dX0_init_83 : decode cX0_init 83 = .ok (.aload_n 0, 1) := by decide +kernel
theorem dX0_init_84 : decode cX0_init 84 = .ok (.bipush 64, 2) := by decide +kernel
theorem dX0_init_86 : decode cX0_init 86 = .ok (.newarray .int, 2) := by decide +kernel
theorem dX0_init_88 : decode cX0_init 88 = .ok (.putfield 35, 3) := by decide +kernel
theorem dX0_init_91 : decode cX0_init 91 = .ok (.aload_n 0, 1) := by decide +kernel
theorem dX0_init_92 : decode cX0_init 92 = .ok (.aload_n 1, 1) := by decide +kernel
theorem dX0_init_93 : decode cX0_init 93 = .ok (.putfield 39, 3) := by decide +kernel
theorem dX0_init_96 : decode cX0_init 96 = .ok (.aload_n 0, 1) := by decide +kernel
theorem dX0_init_97 : decode cX0_init 97 = .ok (.getfield 35, 3) := by decide +kernel
theorem dX0_init_100 : decode cX0_init 100 = .ok (.iconst (-1), 1) := by decide +kernel
theorem dX0_init_101 : decode cX0_init 101 = .ok (.invokestatic 43, 3) := by decide +kernel
theorem dX0_init_104 : decode cX0_init 104 = .ok (.return_, 1) := by decide +kernel
/-- InferResolve$Bounds.<init>(LInferResolve$Kinds;)V -/
noncomputable def qc_47 : pr_Co := [(0, (.inl (po_aload 0 1))), (1, (.inl (po_oi 4))), (4, (.inl (po_aload 0 5))), (5, (.inl (po_new 7 [.null, .int 0] 8))), (8, (.inl (po_dup 9))), (9, (.inl (po_push 256 12))), (12, (.inl (po_ci 78 1 2 15))), (15, (.inl (po_putr 0 1 18))), (18, (.inl (po_aload 0 19))), (19, (.inl (po_new 7 [.null, .int 0] 22))), (22, (.inl (po_dup 23))), (23, (.inl (po_push 32 25))), (25, (.inl (po_ci 78 1 2 28))), (28, (.inl (po_putr 0 2 31))), (31, (.inl (po_aload 0 32))), (32, (.inl (po_new 7 [.null, .int 0] 35))), (35, (.inl (po_dup 36))), (36, (.inl (po_push 32 38))), (38, (.inl (po_ci 78 1 2 41))), (41, (.inl (po_putr 0 3 44))), (44, (.inl (po_aload 0 45))), (45, (.inl (po_new 7 [.null, .int 0] 48))), (48, (.inl (po_dup 49))), (49, (.inl (po_push 32 51))), (51, (.inl (po_ci 78 1 2 54))), (54, (.inl (po_putr 0 4 57))), (57, (.inl (po_aload 0 58))), (58, (.inl (po_new 7 [.null, .int 0] 61))), (61, (.inl (po_dup 62))), (62, (.inl (po_push 32 64))), (64, (.inl (po_ci 78 1 2 67))), (67, (.inl (po_putr 0 5 70))), (70, (.inl (po_aload 0 71))), (71, (.inl (po_new 7 [.null, .int 0] 74))), (74, (.inl (po_dup 75))), (75, (.inl (po_push 32 77))), (77, (.inl (po_ci 78 1 2 80))), (80, (.inl (po_putr 0 6 83))), (83, (.inl (po_aload 0 84))), (84, (.inl (po_push 64 86))), (86, (.inl (po_newI 88))), (88, (.inl (po_putr 0 7 91))), (91, (.inl (po_aload 0 92))), (92, (.inl (po_aload 1 93))), (93, (.inl (po_putr 0 0 96))), (96, (.inl (po_aload 0 97))), (97, (.inl (po_get 0 7 100))), (100, (.inl (po_push (-1) 101))), (101, (.inl (po_cs 105 2 4 104))), (104, (.inr (re_v)))]
set_option maxRecDepth 100000 in
set_option maxHeartbeats 4000000 in
theorem qs_47 : pr_aS pr_ms m_47 [(0, (.inl (po_aload 0 1))), (1, (.inl (po_oi 4))), (4, (.inl (po_aload 0 5))), (5, (.inl (po_new 7 [.null, .int 0] 8))), (8, (.inl (po_dup 9))), (9, (.inl (po_push 256 12))), (12, (.inl (po_ci 78 1 2 15))), (15, (.inl (po_putr 0 1 18))), (18, (.inl (po_aload 0 19))), (19, (.inl (po_new 7 [.null, .int 0] 22))), (22, (.inl (po_dup 23))), (23, (.inl (po_push 32 25))), (25, (.inl (po_ci 78 1 2 28))), (28, (.inl (po_putr 0 2 31))), (31, (.inl (po_aload 0 32))), (32, (.inl (po_new 7 [.null, .int 0] 35))), (35, (.inl (po_dup 36))), (36, (.inl (po_push 32 38))), (38, (.inl (po_ci 78 1 2 41))), (41, (.inl (po_putr 0 3 44))), (44, (.inl (po_aload 0 45))), (45, (.inl (po_new 7 [.null, .int 0] 48))), (48, (.inl (po_dup 49))), (49, (.inl (po_push 32 51))), (51, (.inl (po_ci 78 1 2 54))), (54, (.inl (po_putr 0 4 57))), (57, (.inl (po_aload 0 58))), (58, (.inl (po_new 7 [.null, .int 0] 61))), (61, (.inl (po_dup 62))), (62, (.inl (po_push 32 64))), (64, (.inl (po_ci 78 1 2 67))), (67, (.inl (po_putr 0 5 70))), (70, (.inl (po_aload 0 71))), (71, (.inl (po_new 7 [.null, .int 0] 74))), (74, (.inl (po_dup 75))), (75, (.inl (po_push 32 77))), (77, (.inl (po_ci 78 1 2 80))), (80, (.inl (po_putr 0 6 83))), (83, (.inl (po_aload 0 84))), (84, (.inl (po_push 64 86))), (86, (.inl (po_newI 88))), (88, (.inl (po_putr 0 7 91))), (91, (.inl (po_aload 0 92))), (92, (.inl (po_aload 1 93))), (93, (.inl (po_putr 0 0 96))), (96, (.inl (po_aload 0 97))), (97, (.inl (po_get 0 7 100))), (100, (.inl (po_push (-1) 101))), (101, (.inl (po_cs 105 2 4 104))), (104, (.inr (re_v)))] := pr_aS_c (pr_eI (os_aload_n (q := 0) dX0_init_0)) (pr_aS_c (pr_eI (os_oi dX0_init_1 wd_269 wd_1 wd_2)) (pr_aS_c (pr_eI (os_aload_n (q := 0) dX0_init_4)) (pr_aS_c (pr_eI (os_new dX0_init_5 cf_7 wd_270 wd_4 wd_5 (by decide +kernel))) (pr_aS_c (pr_eI (os_dup dX0_init_8)) (pr_aS_c (pr_eI (os_sipush dX0_init_9 (by decide +kernel))) (pr_aS_c (pr_eI (os_ci dX0_init_12 (k := 78) rfl rfl cal_78 wd_271 wd_7 rfl rfl)) (pr_aS_c (pr_eI (os_putrF (kf := 1) dX0_init_15 cf_0 (by decide) wd_272 rfl rfl rfl (Or.inl ⟨_, rfl⟩))) (pr_aS_c (pr_eI (os_aload_n (q := 0) dX0_init_18)) (pr_aS_c (pr_eI (os_new dX0_init_19 cf_7 wd_270 wd_4 wd_5 (by decide +kernel))) (pr_aS_c (pr_eI (os_dup dX0_init_22)) (pr_aS_c (pr_eI (os_bipush dX0_init_23 (by decide +kernel))) (pr_aS_c (pr_eI (os_ci dX0_init_25 (k := 78) rfl rfl cal_78 wd_271 wd_7 rfl rfl)) (pr_aS_c (pr_eI (os_putrF (kf := 2) dX0_init_28 cf_0 (by decide) wd_273 rfl rfl rfl (Or.inl ⟨_, rfl⟩))) (pr_aS_c (pr_eI (os_aload_n (q := 0) dX0_init_31)) (pr_aS_c (pr_eI (os_new dX0_init_32 cf_7 wd_270 wd_4 wd_5 (by decide +kernel))) (pr_aS_c (pr_eI (os_dup dX0_init_35)) (pr_aS_c (pr_eI (os_bipush dX0_init_36 (by decide +kernel))) (pr_aS_c (pr_eI (os_ci dX0_init_38 (k := 78) rfl rfl cal_78 wd_271 wd_7 rfl rfl)) (pr_aS_c (pr_eI (os_putrF (kf := 3) dX0_init_41 cf_0 (by decide) wd_274 rfl rfl rfl (Or.inl ⟨_, rfl⟩))) (pr_aS_c (pr_eI (os_aload_n (q := 0) dX0_init_44)) (pr_aS_c (pr_eI (os_new dX0_init_45 cf_7 wd_270 wd_4 wd_5 (by decide +kernel))) (pr_aS_c (pr_eI (os_dup dX0_init_48)) (pr_aS_c (pr_eI (os_bipush dX0_init_49 (by decide +kernel))) (pr_aS_c (pr_eI (os_ci dX0_init_51 (k := 78) rfl rfl cal_78 wd_271 wd_7 rfl rfl)) (pr_aS_c (pr_eI (os_putrF (kf := 4) dX0_init_54 cf_0 (by decide) wd_275 rfl rfl rfl (Or.inl ⟨_, rfl⟩))) (pr_aS_c (pr_eI (os_aload_n (q := 0) dX0_init_57)) (pr_aS_c (pr_eI (os_new dX0_init_58 cf_7 wd_270 wd_4 wd_5 (by decide +kernel))) (pr_aS_c (pr_eI (os_dup dX0_init_61)) (pr_aS_c (pr_eI (os_bipush dX0_init_62 (by decide +kernel))) (pr_aS_c (pr_eI (os_ci dX0_init_64 (k := 78) rfl rfl cal_78 wd_271 wd_7 rfl rfl)) (pr_aS_c (pr_eI (os_putrF (kf := 5) dX0_init_67 cf_0 (by decide) wd_276 rfl rfl rfl (Or.inl ⟨_, rfl⟩))) (pr_aS_c (pr_eI (os_aload_n (q := 0) dX0_init_70)) (pr_aS_c (pr_eI (os_new dX0_init_71 cf_7 wd_270 wd_4 wd_5 (by decide +kernel))) (pr_aS_c (pr_eI (os_dup dX0_init_74)) (pr_aS_c (pr_eI (os_bipush dX0_init_75 (by decide +kernel))) (pr_aS_c (pr_eI (os_ci dX0_init_77 (k := 78) rfl rfl cal_78 wd_271 wd_7 rfl rfl)) (pr_aS_c (pr_eI (os_putrF (kf := 6) dX0_init_80 cf_0 (by decide) wd_277 rfl rfl rfl (Or.inl ⟨_, rfl⟩))) (pr_aS_c (pr_eI (os_aload_n (q := 0) dX0_init_83)) (pr_aS_c (pr_eI (os_bipush dX0_init_84 (by decide +kernel))) (pr_aS_c (pr_eI (os_newI dX0_init_86 wd_138)) (pr_aS_c (pr_eI (os_putrF (kf := 7) dX0_init_88 cf_0 (by decide) wd_278 rfl rfl rfl (Or.inr ⟨_, rfl⟩))) (pr_aS_c (pr_eI (os_aload_n (q := 0) dX0_init_91)) (pr_aS_c (pr_eI (os_aload_n (q := 1) dX0_init_92)) (pr_aS_c (pr_eI (os_putrF (kf := 0) dX0_init_93 cf_0 (by decide) wd_279 rfl rfl rfl (Or.inl ⟨_, rfl⟩))) (pr_aS_c (pr_eI (os_aload_n (q := 0) dX0_init_96)) (pr_aS_c (pr_eI (os_get (kf := 7) dX0_init_97 cf_0 (by decide) wd_278)) (pr_aS_c (pr_eI (os_iconst dX0_init_100 (by decide +kernel))) (pr_aS_c (pr_eI (os_cs dX0_init_101 (k := 105) rfl rfl cal_105 wd_280 wd_281)) (pr_aS_c (pr_eR (rs_v dX0_init_104 rfl)) trivial)))))))))))))))))))))))))))))))))))))))))))))))))
theorem dX0_count_0 : decode cX0_count 0 = .ok (.aload_n 0, 1) := by decide +kernel
theorem dX0_count_1 : decode cX0_count 1 = .ok (.getfield 20, 3) := by decide +kernel
theorem dX0_count_4 : decode cX0_count 4 = .ok (.invokevirtual 49, 3) := by decide +kernel
theorem dX0_count_7 : decode cX0_count 7 = .ok (.ireturn, 1) := by decide +kernel
/-- InferResolve$Bounds.count()I -/
noncomputable def qc_48 : pr_Co := [(0, (.inl (po_aload 0 1))), (1, (.inl (po_get 0 2 4))), (4, (.inl (po_cv 79 0 7 1 7))), (7, (.inr (re_i)))]
set_option maxRecDepth 100000 in
set_option maxHeartbeats 4000000 in
theorem qs_48 : pr_aS pr_ms m_48 [(0, (.inl (po_aload 0 1))), (1, (.inl (po_get 0 2 4))), (4, (.inl (po_cv 79 0 7 1 7))), (7, (.inr (re_i)))] := pr_aS_c (pr_eI (os_aload_n (q := 0) dX0_count_0)) (pr_aS_c (pr_eI (os_get (kf := 2) dX0_count_1 cf_0 (by decide) wd_273)) (pr_aS_c (pr_eI (os_cv dX0_count_4 (k := 79) rfl rfl cal_79 wd_282 wd_102 wd_101 rfl)) (pr_aS_c (pr_eR (rs_i dX0_count_7 rfl)) trivial)))
theorem dX0_clear_0 : decode cX0_clear 0 = .ok (.aload_n 0, 1) := by decide +kernel
theorem dX0_clear_1 : decode cX0_clear 1 = .ok (.getfield 14, 3) := by decide +kernel
theorem dX0_clear_4 : decode cX0_clear 4 = .ok (.iconst 0, 1) := by decide +kernel
theorem dX0_clear_5 : decode cX0_clear 5 = .ok (.invokevirtual 87, 3) := by decide +kernel
theorem dX0_clear_8 : decode cX0_clear 8 = .ok (.aload_n 0, 1) := by decide +kernel
theorem dX0_clear_9 : decode cX0_clear 9 = .ok (.getfield 20, 3) := by decide +kernel
theorem dX0_clear_12 : decode cX0_clear 12 = .ok (.iconst 0, 1) := by decide +kernel
theorem dX0_clear_13 : decode cX0_clear 13 = .ok (.invokevirtual 87, 3) := by decide +kernel
theorem dX0_clear_16 : decode cX0_clear 16 = .ok (.aload_n 0, 1) := by decide +kernel
theorem dX0_clear_17 : decode cX0_clear 17 = .ok (.getfield 23, 3) := by decide +kernel
theorem dX0_clear_20 : decode cX0_clear 20 = .ok (.iconst 0, 1) := by decide +kernel
theorem dX0_clear_21 : decode cX0_clear 21 = .ok (.invokevirtual 87, 3) := by decide +kernel
theorem dX0_clear_24 : decode cX0_clear 24 = .ok (.aload_n 0, 1) := by decide +kernel
theorem dX0_clear_25 : decode cX0_clear 25 = .ok (.getfield 26, 3) := by decide +kernel
theorem dX0_clear_28 : decode cX0_clear 28 = .ok (.iconst 0, 1) := by decide +kernel
theorem dX0_clear_29 : decode cX0_clear 29 = .ok (.invokevirtual 87, 3) := by decide +kernel
theorem dX0_clear_32 : decode cX0_clear 32 = .ok (.aload_n 0, 1) := by decide +kernel
theorem dX0_clear_33 : decode cX0_clear 33 = .ok (.getfield 29, 3) := by decide +kernel
theorem dX0_clear_36 : decode cX0_clear 36 = .ok (.iconst 0, 1) := by decide +kernel
theorem dX0_clear_37 : decode cX0_clear 37 = .ok (.invokevirtual 87, 3) := by decide +kernel
theorem dX0_clear_40 : decode cX0_clear 40 = .ok (.aload_n 0, 1) := by decide +kernel
theorem dX0_clear_41 : decode cX0_clear 41 = .ok (.getfield 32, 3) := by decide +kernel
theorem dX0_clear_44 : decode cX0_clear 44 = .ok (.iconst 0, 1) := by decide +kernel
theorem dX0_clear_45 : decode cX0_clear 45 = .ok (.invokevirtual 87, 3) := by decide +kernel
theorem dX0_clear_48 : decode cX0_clear 48 = .ok (.aload_n 0, 1) := by decide +kernel
theorem dX0_clear_49 : decode cX0_clear 49 = .ok (.getfield 35, 3) := by decide +kernel
theorem dX0_clear_52 : decode cX0_clear 52 = .ok (.iconst (-1), 1) := by decide +kernel
theorem dX0_clear_53 : decode cX0_clear 53 = .ok (.invokestatic 43, 3) := by decide +kernel
theorem dX0_clear_56 : decode cX0_clear 56 = .ok (.aload_n 0, 1) := by decide +kernel
theorem dX0_clear_57 : decode cX0_clear 57 = .ok (.dup, 1) := by decide +kernel
theorem dX0_clear_58 : decode cX0_clear 58 = .ok (.getfield 53, 3) := by decide +kernel
theorem dX0_clear_61 : decode cX0_clear 61 = .ok (.iconst 1, 1) := by decide +kernel
theorem dX0_clear_62 : decode cX0_clear 62 = .ok (.iadd, 1) := by decide +kernel
theorem dX0_clear_63 : decode cX0_clear 63 = .ok (.putfield 53, 3) := by decide +kernel
theorem dX0_clear_66 : decode cX0_clear 66 = .ok (.return_, 1) := by decide +kernel
/-- InferResolve$Bounds.clear()V -/
noncomputable def qc_49 : pr_Co := [(0, (.inl (po_aload 0 1))), (1, (.inl (po_get 0 1 4))), (4, (.inl (po_push 0 5))), (5, (.inl (po_cv 83 1 7 2 8))), (8, (.inl (po_aload 0 9))), (9, (.inl (po_get 0 2 12))), (12, (.inl (po_push 0 13))), (13, (.inl (po_cv 83 1 7 2 16))), (16, (.inl (po_aload 0 17))), (17, (.inl (po_get 0 3 20))), (20, (.inl (po_push 0 21))), (21, (.inl (po_cv 83 1 7 2 24))), (24, (.inl (po_aload 0 25))), (25, (.inl (po_get 0 4 28))), (28, (.inl (po_push 0 29))), (29, (.inl (po_cv 83 1 7 2 32))), (32, (.inl (po_aload 0 33))), (33, (.inl (po_get 0 5 36))), (36, (.inl (po_push 0 37))), (37, (.inl (po_cv 83 1 7 2 40))), (40, (.inl (po_aload 0 41))), (41, (.inl (po_get 0 6 44))), (44, (.inl (po_push 0 45))), (45, (.inl (po_cv 83 1 7 2 48))), (48, (.inl (po_aload 0 49))), (49, (.inl (po_get 0 7 52))), (52, (.inl (po_push (-1) 53))), (53, (.inl (po_cs 105 2 4 56))), (56, (.inl (po_aload 0 57))), (57, (.inl (po_dup 58))), (58, (.inl (po_get 0 8 61))), (61, (.inl (po_push 1 62))), (62, (.inl (po_i2 (fun x y => x + y) 63))), (63, (.inl (po_puti 0 8 66))), (66, (.inr (re_v)))]
set_option maxRecDepth 100000 in
set_option maxHeartbeats 4000000 in
theorem qs_49 : pr_aS pr_ms m_49 [(0, (.inl (po_aload 0 1))), (1, (.inl (po_get 0 1 4))), (4, (.inl (po_push 0 5))), (5, (.inl (po_cv 83 1 7 2 8))), (8, (.inl (po_aload 0 9))), (9, (.inl (po_get 0 2 12))), (12, (.inl (po_push 0 13))), (13, (.inl (po_cv 83 1 7 2 16))), (16, (.inl (po_aload 0 17))), (17, (.inl (po_get 0 3 20))), (20, (.inl (po_push 0 21))), (21, (.inl (po_cv 83 1 7 2 24))), (24, (.inl (po_aload 0 25))), (25, (.inl (po_get 0 4 28))), (28, (.inl (po_push 0 29))), (29, (.inl (po_cv 83 1 7 2 32))), (32, (.inl (po_aload 0 33))), (33, (.inl (po_get 0 5 36))), (36, (.inl (po_push 0 37))), (37, (.inl (po_cv 83 1 7 2 40))), (40, (.inl (po_aload 0 41))), (41, (.inl (po_get 0 6 44))), (44, (.inl (po_push 0 45))), (45, (.inl (po_cv 83 1 7 2 48))), (48, (.inl (po_aload 0 49))), (49, (.inl (po_get 0 7 52))), (52, (.inl (po_push (-1) 53))), (53, (.inl (po_cs 105 2 4 56))), (56, (.inl (po_aload 0 57))), (57, (.inl (po_dup 58))), (58, (.inl (po_get 0 8 61))), (61, (.inl (po_push 1 62))), (62, (.inl (po_i2 (fun x y => x + y) 63))), (63, (.inl (po_puti 0 8 66))), (66, (.inr (re_v)))] := pr_aS_c (pr_eI (os_aload_n (q := 0) dX0_clear_0)) (pr_aS_c (pr_eI (os_get (kf := 1) dX0_clear_1 cf_0 (by decide) wd_272)) (pr_aS_c (pr_eI (os_iconst dX0_clear_4 (by decide +kernel))) (pr_aS_c (pr_eI (os_cv dX0_clear_5 (k := 83) rfl rfl cal_83 wd_283 wd_116 wd_115 rfl)) (pr_aS_c (pr_eI (os_aload_n (q := 0) dX0_clear_8)) (pr_aS_c (pr_eI (os_get (kf := 2) dX0_clear_9 cf_0 (by decide) wd_273)) (pr_aS_c (pr_eI (os_iconst dX0_clear_12 (by decide +kernel))) (pr_aS_c (pr_eI (os_cv dX0_clear_13 (k := 83) rfl rfl cal_83 wd_283 wd_116 wd_115 rfl)) (pr_aS_c (pr_eI (os_aload_n (q := 0) dX0_clear_16)) (pr_aS_c (pr_eI (os_get (kf := 3) dX0_clear_17 cf_0 (by decide) wd_274)) (pr_aS_c (pr_eI (os_iconst dX0_clear_20 (by decide +kernel))) (pr_aS_c (pr_eI (os_cv dX0_clear_21 (k := 83) rfl rfl cal_83 wd_283 wd_116 wd_115 rfl)) (pr_aS_c (pr_eI (os_aload_n (q := 0) dX0_clear_24)) (pr_aS_c (pr_eI (os_get (kf := 4) dX0_clear_25 cf_0 (by decide) wd_275)) (pr_aS_c (pr_eI (os_iconst dX0_clear_28 (by decide +kernel))) (pr_aS_c (pr_eI (os_cv dX0_clear_29 (k := 83) rfl rfl cal_83 wd_283 wd_116 wd_115 rfl)) (pr_aS_c (pr_eI (os_aload_n (q := 0) dX0_clear_32)) (pr_aS_c (pr_eI (os_get (kf := 5) dX0_clear_33 cf_0 (by decide) wd_276)) (pr_aS_c (pr_eI (os_iconst dX0_clear_36 (by decide +kernel))) (pr_aS_c (pr_eI (os_cv dX0_clear_37 (k := 83) rfl rfl cal_83 wd_283 wd_116 wd_115 rfl)) (pr_aS_c (pr_eI (os_aload_n (q := 0) dX0_clear_40)) (pr_aS_c (pr_eI (os_get (kf := 6) dX0_clear_41 cf_0 (by decide) wd_277)) (pr_aS_c (pr_eI (os_iconst dX0_clear_44 (by decide +kernel))) (pr_aS_c (pr_eI (os_cv dX0_clear_45 (k := 83) rfl rfl cal_83 wd_283 wd_116 wd_115 rfl)) (pr_aS_c (pr_eI (os_aload_n (q := 0) dX0_clear_48)) (pr_aS_c (pr_eI (os_get (kf := 7) dX0_clear_49 cf_0 (by decide) wd_278)) (pr_aS_c (pr_eI (os_iconst dX0_clear_52 (by decide +kernel))) (pr_aS_c (pr_eI (os_cs dX0_clear_53 (k := 105) rfl rfl cal_105 wd_280 wd_281)) (pr_aS_c (pr_eI (os_aload_n (q := 0) dX0_clear_56)) (pr_aS_c (pr_eI (os_dup dX0_clear_57)) (pr_aS_c (pr_eI (os_get (kf := 8) dX0_clear_58 cf_0 (by decide) wd_284)) (pr_aS_c (pr_eI (os_iconst dX0_clear_61 (by decide +kernel))) (pr_aS_c (pr_eI (os_iadd dX0_clear_62)) (pr_aS_c (pr_eI (os_puti (kf := 8) dX0_clear_63 cf_0 (by decide) wd_284 rfl rfl)) (pr_aS_c (pr_eR (rs_v dX0_clear_66 rfl)) trivial))))))))))))))))))))))))))))))))))
theorem dX1_init_0 : decode cX1_init 0 = .ok (.aload_n 0, 1) := by decide +kernel
theorem dX1_init_1 : decode cX1_init 1 = .ok (.invokespecial 3, 3) := by decide +kernel
theorem dX1_init_4 : decode cX1_init 4 = .ok (.aload_n 0, 1) := by decide +kernel
theorem dX1_init_5 : decode cX1_init 5 = .ok (.new 9, 3) := by decide +kernel
theorem dX1_init_8 : decode cX1_init 8 = .ok (.dup, 1) := by decide +kernel
theorem dX1_init_9 : decode cX1_init 9 = .ok (.bipush 32, 2) := by decide +kernel
theorem dX1_init_11 : decode cX1_init 11 = .ok (.invokespecial 11, 3) := by decide +kernel
theorem dX1_init_14 : decode cX1_init 14 = .ok (.putfield 14, 3) := by decide +kernel
theorem dX1_init_17 : decode cX1_init 17 = .ok (.aload_n 0, 1) := by decide +kernel
theorem dX1_init_18 : decode cX1_init 18 = .ok (.new 9, 3) := by decide +kernel
theorem dX1_init_21 : decode cX1_init 21 = .ok (.dup, 1) := by decide +kernel
theorem dX1_init_22 : decode cX1_init 22 = .ok (.bipush 32, 2) := by decide +kernel
theorem dX1_init_24 : decode cX1_init 24 = .ok (.invokespecial 11, 3) := by decide +kernel
theorem dX1_init_27 : decode cX1_init 27 = .ok (.putfield 20, 3) := by decide +kernel
theorem dX1_init_30 : decode cX1_init 30 = .ok (.aload_n 0, 1) := by decide +kernel
theorem dX1_init_31 : decode cX1_init 31 = .ok (.new 9, 3) := by decide +kernel
theorem dX1_init_34 : decode cX1_init 34 = .ok (.dup, 1) := by decide +kernel
theorem dX1_init_35 : decode cX1_init 35 = .ok (.bipush 32, 2) := by decide +kernel
theorem dX1_init_37 : decode cX1_init 37 = .ok (.invokespecial 11, 3) := by decide +kernel
theorem dX1_init_40 : decode cX1_init 40 = .ok (.putfield 23, 3) := by decide +kernel
theorem dX1_init_43 : decode cX1_init 43 = .ok (.aload_n 0, 1) := by decide +kernel
theorem dX1_init_44 : decode cX1_init 44 = .ok (.new 9, 3) := by decide +kernel
theorem dX1_init_47 : decode cX1_init 47 = .ok (.dup, 1) := by decide +kernel
theorem dX1_init_48 : decode cX1_init 48 = .ok (.bipush 64, 2) := by decide +kernel
theorem dX1_init_50 : decode cX1_init 50 = .ok (.invokespecial 11, 3) := by decide +kernel
theorem dX1_init_53 : decode cX1_init 53 = .ok (.putfield 26, 3) := by decide +kernel
theorem dX1_init_56 : decode cX1_init 56 = .ok (.aload_n 0, 1) := by decide +kernel
theorem dX1_init_57 : decode cX1_init 57 = .ok (.new 9, 3) := by decide +kernel
theorem dX1_init_60 : decode cX1_init 60 = .ok (.dup, 1) := by decide +kernel
theorem dX1_init_61 : decode cX1_init 61 = .ok (.bipush 48, 2) := by decide +kernel
theorem dX1_init_63 : decode cX1_init 63 = .ok (.invokespecial 11, 3) := by decide +kernel
theorem dX1_init_66 : decode cX1_init 66 = .ok (.putfield 29, 3) := by decide +kernel
theorem dX1_init_69 : decode cX1_init 69 = .ok (.aload_n 0, 1) := by decide +kernel
theorem dX1_init_70 : decode cX1_init 70 = .ok (.new 9, 3) := by decide +kernel
theorem dX1_init_73 : decode cX1_init 73 = .ok (.dup, 1) := by decide +kernel
theorem dX1_init_74 : decode cX1_init 74 = .ok (.bipush 48, 2) := by decide +kernel
theorem dX1_init_76 : decode cX1_init 76 = .ok (.invokespecial 11, 3) := by decide +kernel
theorem dX1_init_79 : decode cX1_init 79 = .ok (.putfield 32, 3) := by decide +kernel
theorem dX1_init_82 : decode cX1_init 82 = .ok (.aload_n 0, 1) := by decide +kernel
theorem dX1_init_83 : decode cX1_init 83 = .ok (.aload_n 1, 1) := by decide +kernel
theorem dX1_init_84 : decode cX1_init 84 = .ok (.putfield 35, 3) := by decide +kernel
theorem dX1_init_87 : decode cX1_init 87 = .ok (.aload_n 0, 1) := by decide +kernel
theorem dX1_init_88 : decode cX1_init 88 = .ok (.aload_n 2, 1) := by decide +kernel
theorem dX1_init_89 : decode cX1_init 89 = .ok (.putfield 39, 3) := by decide +kernel
theorem dX1_init_92 : decode cX1_init 92 = .ok (.aload_n 0, 1) := by decide +kernel
theorem dX1_init_93 : decode cX1_init 93 = .ok (.aload_n 3, 1) := by decide +kernel
theorem dX1_init_94 : decode cX1_init 94 = .ok (.putfield 43, 3) := by decide +kernel
theorem dX1_init_97 : decode cX1_init 97 = .ok (.return_, 1) := by decide +kernel
/-- InferResolve$Closer.<init>(LInferResolve$Kinds;LInferResolve$Bounds;LInferResolve$Reducer;)V -/
noncomputable def qc_50 : pr_Co := [(0, (.inl (po_aload 0 1))), (1, (.inl (po_oi 4))), (4, (.inl (po_aload 0 5))), (5, (.inl (po_new 7 [.null, .int 0] 8))), (8, (.inl (po_dup 9))), (9, (.inl (po_push 32 11))), (11, (.inl (po_ci 78 1 2 14))), (14, (.inl (po_putr 1 3 17))), (17, (.inl (po_aload 0 18))), (18, (.inl (po_new 7 [.null, .int 0] 21))), (21, (.inl (po_dup 22))), (22, (.inl (po_push 32 24))), (24, (.inl (po_ci 78 1 2 27))), (27, (.inl (po_putr 1 4 30))), (30, (.inl (po_aload 0 31))), (31, (.inl (po_new 7 [.null, .int 0] 34))), (34, (.inl (po_dup 35))), (35, (.inl (po_push 32 37))), (37, (.inl (po_ci 78 1 2 40))), (40, (.inl (po_putr 1 5 43))), (43, (.inl (po_aload 0 44))), (44, (.inl (po_new 7 [.null, .int 0] 47))), (47, (.inl (po_dup 48))), (48, (.inl (po_push 64 50))), (50, (.inl (po_ci 78 1 2 53))), (53, (.inl (po_putr 1 6 56))), (56, (.inl (po_aload 0 57))), (57, (.inl (po_new 7 [.null, .int 0] 60))), (60, (.inl (po_dup 61))), (61, (.inl (po_push 48 63))), (63, (.inl (po_ci 78 1 2 66))), (66, (.inl (po_putr 1 7 69))), (69, (.inl (po_aload 0 70))), (70, (.inl (po_new 7 [.null, .int 0] 73))), (73, (.inl (po_dup 74))), (74, (.inl (po_push 48 76))), (76, (.inl (po_ci 78 1 2 79))), (79, (.inl (po_putr 1 8 82))), (82, (.inl (po_aload 0 83))), (83, (.inl (po_aload 1 84))), (84, (.inl (po_putr 1 0 87))), (87, (.inl (po_aload 0 88))), (88, (.inl (po_aload 2 89))), (89, (.inl (po_putr 1 1 92))), (92, (.inl (po_aload 0 93))), (93, (.inl (po_aload 3 94))), (94, (.inl (po_putr 1 2 97))), (97, (.inr (re_v)))]
set_option maxRecDepth 100000 in
set_option maxHeartbeats 4000000 in
theorem qs_50 : pr_aS pr_ms m_50 [(0, (.inl (po_aload 0 1))), (1, (.inl (po_oi 4))), (4, (.inl (po_aload 0 5))), (5, (.inl (po_new 7 [.null, .int 0] 8))), (8, (.inl (po_dup 9))), (9, (.inl (po_push 32 11))), (11, (.inl (po_ci 78 1 2 14))), (14, (.inl (po_putr 1 3 17))), (17, (.inl (po_aload 0 18))), (18, (.inl (po_new 7 [.null, .int 0] 21))), (21, (.inl (po_dup 22))), (22, (.inl (po_push 32 24))), (24, (.inl (po_ci 78 1 2 27))), (27, (.inl (po_putr 1 4 30))), (30, (.inl (po_aload 0 31))), (31, (.inl (po_new 7 [.null, .int 0] 34))), (34, (.inl (po_dup 35))), (35, (.inl (po_push 32 37))), (37, (.inl (po_ci 78 1 2 40))), (40, (.inl (po_putr 1 5 43))), (43, (.inl (po_aload 0 44))), (44, (.inl (po_new 7 [.null, .int 0] 47))), (47, (.inl (po_dup 48))), (48, (.inl (po_push 64 50))), (50, (.inl (po_ci 78 1 2 53))), (53, (.inl (po_putr 1 6 56))), (56, (.inl (po_aload 0 57))), (57, (.inl (po_new 7 [.null, .int 0] 60))), (60, (.inl (po_dup 61))), (61, (.inl (po_push 48 63))), (63, (.inl (po_ci 78 1 2 66))), (66, (.inl (po_putr 1 7 69))), (69, (.inl (po_aload 0 70))), (70, (.inl (po_new 7 [.null, .int 0] 73))), (73, (.inl (po_dup 74))), (74, (.inl (po_push 48 76))), (76, (.inl (po_ci 78 1 2 79))), (79, (.inl (po_putr 1 8 82))), (82, (.inl (po_aload 0 83))), (83, (.inl (po_aload 1 84))), (84, (.inl (po_putr 1 0 87))), (87, (.inl (po_aload 0 88))), (88, (.inl (po_aload 2 89))), (89, (.inl (po_putr 1 1 92))), (92, (.inl (po_aload 0 93))), (93, (.inl (po_aload 3 94))), (94, (.inl (po_putr 1 2 97))), (97, (.inr (re_v)))] := pr_aS_c (pr_eI (os_aload_n (q := 0) dX1_init_0)) (pr_aS_c (pr_eI (os_oi dX1_init_1 wd_285 wd_1 wd_2)) (pr_aS_c (pr_eI (os_aload_n (q := 0) dX1_init_4)) (pr_aS_c (pr_eI (os_new dX1_init_5 cf_7 wd_286 wd_4 wd_5 (by decide +kernel))) (pr_aS_c (pr_eI (os_dup dX1_init_8)) (pr_aS_c (pr_eI (os_bipush dX1_init_9 (by decide +kernel))) (pr_aS_c (pr_eI (os_ci dX1_init_11 (k := 78) rfl rfl cal_78 wd_287 wd_7 rfl rfl)) (pr_aS_c (pr_eI (os_putrF (kf := 3) dX1_init_14 cf_1 (by decide) wd_288 rfl rfl rfl (Or.inl ⟨_, rfl⟩))) (pr_aS_c (pr_eI (os_aload_n (q := 0) dX1_init_17)) (pr_aS_c (pr_eI (os_new dX1_init_18 cf_7 wd_286 wd_4 wd_5 (by decide +kernel))) (pr_aS_c (pr_eI (os_dup dX1_init_21)) (pr_aS_c (pr_eI (os_bipush dX1_init_22 (by decide +kernel))) (pr_aS_c (pr_eI (os_ci dX1_init_24 (k := 78) rfl rfl cal_78 wd_287 wd_7 rfl rfl)) (pr_aS_c (pr_eI (os_putrF (kf := 4) dX1_init_27 cf_1 (by decide) wd_289 rfl rfl rfl (Or.inl ⟨_, rfl⟩))) (pr_aS_c (pr_eI (os_aload_n (q := 0) dX1_init_30)) (pr_aS_c (pr_eI (os_new dX1_init_31 cf_7 wd_286 wd_4 wd_5 (by decide +kernel))) (pr_aS_c (pr_eI (os_dup dX1_init_34)) (pr_aS_c (pr_eI (os_bipush dX1_init_35 (by decide +kernel))) (pr_aS_c (pr_eI (os_ci dX1_init_37 (k := 78) rfl rfl cal_78 wd_287 wd_7 rfl rfl)) (pr_aS_c (pr_eI (os_putrF (kf := 5) dX1_init_40 cf_1 (by decide) wd_290 rfl rfl rfl (Or.inl ⟨_, rfl⟩))) (pr_aS_c (pr_eI (os_aload_n (q := 0) dX1_init_43)) (pr_aS_c (pr_eI (os_new dX1_init_44 cf_7 wd_286 wd_4 wd_5 (by decide +kernel))) (pr_aS_c (pr_eI (os_dup dX1_init_47)) (pr_aS_c (pr_eI (os_bipush dX1_init_48 (by decide +kernel))) (pr_aS_c (pr_eI (os_ci dX1_init_50 (k := 78) rfl rfl cal_78 wd_287 wd_7 rfl rfl)) (pr_aS_c (pr_eI (os_putrF (kf := 6) dX1_init_53 cf_1 (by decide) wd_291 rfl rfl rfl (Or.inl ⟨_, rfl⟩))) (pr_aS_c (pr_eI (os_aload_n (q := 0) dX1_init_56)) (pr_aS_c (pr_eI (os_new dX1_init_57 cf_7 wd_286 wd_4 wd_5 (by decide +kernel))) (pr_aS_c (pr_eI (os_dup dX1_init_60)) (pr_aS_c (pr_eI (os_bipush dX1_init_61 (by decide +kernel))) (pr_aS_c (pr_eI (os_ci dX1_init_63 (k := 78) rfl rfl cal_78 wd_287 wd_7 rfl rfl)) (pr_aS_c (pr_eI (os_putrF (kf := 7) dX1_init_66 cf_1 (by decide) wd_292 rfl rfl rfl (Or.inl ⟨_, rfl⟩))) (pr_aS_c (pr_eI (os_aload_n (q := 0) dX1_init_69)) (pr_aS_c (pr_eI (os_new dX1_init_70 cf_7 wd_286 wd_4 wd_5 (by decide +kernel))) (pr_aS_c (pr_eI (os_dup dX1_init_73)) (pr_aS_c (pr_eI (os_bipush dX1_init_74 (by decide +kernel))) (pr_aS_c (pr_eI (os_ci dX1_init_76 (k := 78) rfl rfl cal_78 wd_287 wd_7 rfl rfl)) (pr_aS_c (pr_eI (os_putrF (kf := 8) dX1_init_79 cf_1 (by decide) wd_293 rfl rfl rfl (Or.inl ⟨_, rfl⟩))) (pr_aS_c (pr_eI (os_aload_n (q := 0) dX1_init_82)) (pr_aS_c (pr_eI (os_aload_n (q := 1) dX1_init_83)) (pr_aS_c (pr_eI (os_putrF (kf := 0) dX1_init_84 cf_1 (by decide) wd_294 rfl rfl rfl (Or.inl ⟨_, rfl⟩))) (pr_aS_c (pr_eI (os_aload_n (q := 0) dX1_init_87)) (pr_aS_c (pr_eI (os_aload_n (q := 2) dX1_init_88)) (pr_aS_c (pr_eI (os_putrF (kf := 1) dX1_init_89 cf_1 (by decide) wd_295 rfl rfl rfl (Or.inl ⟨_, rfl⟩))) (pr_aS_c (pr_eI (os_aload_n (q := 0) dX1_init_92)) (pr_aS_c (pr_eI (os_aload_n (q := 3) dX1_init_93)) (pr_aS_c (pr_eI (os_putrF (kf := 2) dX1_init_94 cf_1 (by decide) wd_296 rfl rfl rfl (Or.inl ⟨_, rfl⟩))) (pr_aS_c (pr_eR (rs_v dX1_init_97 rfl)) trivial)))))))))))))))))))))))))))))))))))))))))))))))
theorem dX1_rounds_0 : decode cX1_rounds 0 = .ok (.aload_n 0, 1) := by decide +kernel
theorem dX1_rounds_1 : decode cX1_rounds 1 = .ok (.getfield 47, 3) := by decide +kernel
theorem dX1_rounds_4 : decode cX1_rounds 4 = .ok (.ireturn, 1) := by decide +kernel
/-- InferResolve$Closer.rounds()I -/
noncomputable def qc_51 : pr_Co := [(0, (.inl (po_aload 0 1))), (1, (.inl (po_get 1 9 4))), (4, (.inr (re_i)))]
set_option maxRecDepth 100000 in
set_option maxHeartbeats 4000000 in
theorem qs_51 : pr_aS pr_ms m_51 [(0, (.inl (po_aload 0 1))), (1, (.inl (po_get 1 9 4))), (4, (.inr (re_i)))] := pr_aS_c (pr_eI (os_aload_n (q := 0) dX1_rounds_0)) (pr_aS_c (pr_eI (os_get (kf := 9) dX1_rounds_1 cf_1 (by decide) wd_297)) (pr_aS_c (pr_eR (rs_i dX1_rounds_4 rfl)) trivial))
theorem dX1_forgetRounds_0 : decode cX1_forgetRounds 0 = .ok (.aload_n 0, 1) := by decide +kernel
theorem dX1_forgetRounds_1 : decode cX1_forgetRounds 1 = .ok (.iconst 0, 1) := by decide +kernel
theorem dX1_forgetRounds_2 : decode cX1_forgetRounds 2 = .ok (.putfield 47, 3) := by decide +kernel
theorem dX1_forgetRounds_5 : decode cX1_forgetRounds 5 = .ok (.return_, 1) := by decide +kernel
/-- InferResolve$Closer.forgetRounds()V -/
noncomputable def qc_52 : pr_Co := [(0, (.inl (po_aload 0 1))), (1, (.inl (po_push 0 2))), (2, (.inl (po_puti 1 9 5))), (5, (.inr (re_v)))]
set_option maxRecDepth 100000 in
set_option maxHeartbeats 4000000 in
theorem qs_52 : pr_aS pr_ms m_52 [(0, (.inl (po_aload 0 1))), (1, (.inl (po_push 0 2))), (2, (.inl (po_puti 1 9 5))), (5, (.inr (re_v)))] := pr_aS_c (pr_eI (os_aload_n (q := 0) dX1_forgetRounds_0)) (pr_aS_c (pr_eI (os_iconst dX1_forgetRounds_1 (by decide +kernel))) (pr_aS_c (pr_eI (os_puti (kf := 9) dX1_forgetRounds_2 cf_1 (by decide) wd_297 rfl rfl)) (pr_aS_c (pr_eR (rs_v dX1_forgetRounds_5 rfl)) trivial)))
theorem dX1_closing_0 : decode cX1_closing 0 = .ok (.aload_n 0, 1) := by decide +kernel
theorem dX1_closing_1 : decode cX1_closing 1 = .ok (.iconst 0, 1) := by decide +kernel
theorem dX1_closing_2 : decode cX1_closing 2 = .ok (.putfield 47, 3) := by decide +kernel
theorem dX1_closing_5 : decode cX1_closing 5 = .ok (.aload_n 0, 1) := by decide +kernel
theorem dX1_closing_6 : decode cX1_closing 6 = .ok (.getfield 47, 3) := by decide +kernel
theorem dX1_closing_9 : decode cX1_closing 9 = .ok (.bipush 100, 2) := by decide +kernel
theorem dX1_closing_11 : decode cX1_closing 11 = .ok (.if_icmp .ge 128, 3) := by decide +kernel
theorem dX1_closing_14 : decode cX1_closing 14 = .ok (.aload_n 0, 1) := by decide +kernel
theorem dX1_closing_15 : decode cX1_closing 15 = .ok (.getfield 39, 3) := by decide +kernel
theorem dX1_closing_18 : decode cX1_closing 18 = .ok (.invokevirtual 51, 3) := by decide +kernel
theorem dX1_closing_21 : decode cX1_closing 21 = .ok (.istore_n 3, 1) := by decide +kernel
theorem dX1_closing_22 : decode cX1_closing 22 = .ok (.aload_n 0, 1) := by decide +kernel
theorem dX1_closing_23 : decode cX1_closing 23 = .ok (.getfield 43, 3) := by decide +kernel
theorem dX1_closing_26 : decode cX1_closing 26 = .ok (.iload_n 2, 1) := by decide +kernel
theorem dX1_closing_27 : decode cX1_closing 27 = .ok (.invokevirtual 57, 3) := by decide +kernel
theorem dX1_closing_30 : decode cX1_closing 30 = .ok (.iconst 0, 1) := by decide +kernel
theorem dX1_closing_31 : decode cX1_closing 31 = .ok (.istore 4, 2) := by decide +kernel
theorem dX1_closing_33 : decode cX1_closing 33 = .ok (.iload 4, 2) := by decide +kernel
theorem dX1_closing_35 : decode cX1_closing 35 = .ok (.iload_n 1, 1) := by decide +kernel
theorem dX1_closing_36 : decode cX1_closing 36 = .ok (.if_icmp .ge 41, 3) := by decide +kernel
theorem dX1_closing_77 : decode cX1_closing 77 = .ok (.aload_n 0, 1) := by decide +kernel
theorem dX1_closing_78 : decode cX1_closing 78 = .ok (.dup, 1) := by decide +kernel
theorem dX1_closing_79 : decode cX1_closing 79 = .ok (.getfield 47, 3) := by decide +kernel
theorem dX1_closing_82 : decode cX1_closing 82 = .ok (.iconst 1, 1) := by decide +kernel
theorem dX1_closing_83 : decode cX1_closing 83 = .ok (.iadd, 1) := by decide +kernel
theorem dX1_closing_84 : decode cX1_closing 84 = .ok (.putfield 47, 3) := by decide +kernel
theorem dX1_closing_87 : decode cX1_closing 87 = .ok (.aload_n 0, 1) := by decide +kernel
theorem dX1_closing_88 : decode cX1_closing 88 = .ok (.getfield 43, 3) := by decide +kernel
theorem dX1_closing_91 : decode cX1_closing 91 = .ok (.invokevirtual 79, 3) := by decide +kernel
theorem dX1_closing_94 : decode cX1_closing 94 = .ok (.ifCond .eq 5, 3) := by decide +kernel
theorem dX1_closing_99 : decode cX1_closing 99 = .ok (.aload_n 0, 1) := by decide +kernel
theorem dX1_closing_100 : decode cX1_closing 100 = .ok (.getfield 43, 3) := by decide +kernel
theorem dX1_closing_103 : decode cX1_closing 103 = .ok (.invokevirtual 83, 3) := by decide +kernel
theorem dX1_closing_106 : decode cX1_closing 106 = .ok (.ifCond .ne 15, 3) := by decide +kernel
theorem dX1_closing_109 : decode cX1_closing 109 = .ok (.aload_n 0, 1) := by decide +kernel
theorem dX1_closing_110 : decode cX1_closing 110 = .ok (.getfield 39, 3) := by decide +kernel
theorem dX1_closing_113 : decode cX1_closing 113 = .ok (.invokevirtual 51, 3) := by decide +kernel
theorem dX1_closing_116 : decode cX1_closing 116 = .ok (.bipush 48, 2) := by decide +kernel
theorem dX1_closing_118 : decode cX1_closing 118 = .ok (.if_icmp .le 5, 3) := by decide +kernel
theorem dX1_closing_123 : decode cX1_closing 123 = .ok (.aload_n 0, 1) := by decide +kernel
theorem dX1_closing_124 : decode cX1_closing 124 = .ok (.getfield 39, 3) := by decide +kernel
theorem dX1_closing_127 : decode cX1_closing 127 = .ok (.invokevirtual 51, 3) := by decide +kernel
theorem dX1_closing_130 : decode cX1_closing 130 = .ok (.iload_n 3, 1) := by decide +kernel
theorem dX1_closing_131 : decode cX1_closing 131 = .ok (.if_icmp .ne 5, 3) := by decide +kernel
theorem dX1_closing_134 : decode cX1_closing 134 = .ok (.iconst 0, 1) := by decide +kernel
theorem dX1_closing_135 : decode cX1_closing 135 = .ok (.ireturn, 1) := by decide +kernel
/-- InferResolve$Closer.closing(IZ)I -/
noncomputable def qc_53 : pr_Co := [(0, (.inl (po_aload 0 1))), (1, (.inl (po_push 0 2))), (2, (.inl (po_puti 1 9 5))), (5, (.inl (po_aload 0 6))), (6, (.inl (po_get 1 9 9))), (9, (.inl (po_push 100 11))), (11, (.inl (po_if2 (fun x y => decide (y ≤ x)) 139 14))), (14, (.inl (po_aload 0 15))), (15, (.inl (po_get 1 1 18))), (18, (.inl (po_cv 48 0 0 1 21))), (21, (.inl (po_istore 3 22))), (22, (.inl (po_aload 0 23))), (23, (.inl (po_get 1 2 26))), (26, (.inl (po_iload 2 27))), (27, (.inl (po_cv 75 1 6 2 30))), (30, (.inl (po_push 0 31))), (31, (.inl (po_istore 4 33))), (33, (.inl (po_iload 4 35))), (35, (.inl (po_iload 1 36))), (36, (.inl (po_if2 (fun x y => decide (y ≤ x)) 77 39))), (77, (.inl (po_aload 0 78))), (78, (.inl (po_dup 79))), (79, (.inl (po_get 1 9 82))), (82, (.inl (po_push 1 83))), (83, (.inl (po_i2 (fun x y => x + y) 84))), (84, (.inl (po_puti 1 9 87))), (87, (.inl (po_aload 0 88))), (88, (.inl (po_get 1 2 91))), (91, (.inl (po_cv 76 0 6 1 94))), (94, (.inl (po_if1 (fun x => decide (x = 0)) 99 97))), (99, (.inl (po_aload 0 100))), (100, (.inl (po_get 1 2 103))), (103, (.inl (po_cv 77 0 6 1 106))), (106, (.inl (po_if1 (fun x => !decide (x = 0)) 121 109))), (109, (.inl (po_aload 0 110))), (110, (.inl (po_get 1 1 113))), (113, (.inl (po_cv 48 0 0 1 116))), (116, (.inl (po_push 48 118))), (118, (.inl (po_if2 (fun x y => decide (x ≤ y)) 123 121))), (123, (.inl (po_aload 0 124))), (124, (.inl (po_get 1 1 127))), (127, (.inl (po_cv 48 0 0 1 130))), (130, (.inl (po_iload 3 131))), (131, (.inl (po_if2 (fun x y => !decide (x = y)) 136 134))), (134, (.inl (po_push 0 135))), (135, (.inr (re_i)))]
set_option maxRecDepth 100000 in
set_option maxHeartbeats 4000000 in
theorem qs_53 : pr_aS pr_ms m_53 [(0, (.inl (po_aload 0 1))), (1, (.inl (po_push 0 2))), (2, (.inl (po_puti 1 9 5))), (5, (.inl (po_aload 0 6))), (6, (.inl (po_get 1 9 9))), (9, (.inl (po_push 100 11))), (11, (.inl (po_if2 (fun x y => decide (y ≤ x)) 139 14))), (14, (.inl (po_aload 0 15))), (15, (.inl (po_get 1 1 18))), (18, (.inl (po_cv 48 0 0 1 21))), (21, (.inl (po_istore 3 22))), (22, (.inl (po_aload 0 23))), (23, (.inl (po_get 1 2 26))), (26, (.inl (po_iload 2 27))), (27, (.inl (po_cv 75 1 6 2 30))), (30, (.inl (po_push 0 31))), (31, (.inl (po_istore 4 33))), (33, (.inl (po_iload 4 35))), (35, (.inl (po_iload 1 36))), (36, (.inl (po_if2 (fun x y => decide (y ≤ x)) 77 39))), (77, (.inl (po_aload 0 78))), (78, (.inl (po_dup 79))), (79, (.inl (po_get 1 9 82))), (82, (.inl (po_push 1 83))), (83, (.inl (po_i2 (fun x y => x + y) 84))), (84, (.inl (po_puti 1 9 87))), (87, (.inl (po_aload 0 88))), (88, (.inl (po_get 1 2 91))), (91, (.inl (po_cv 76 0 6 1 94))), (94, (.inl (po_if1 (fun x => decide (x = 0)) 99 97))), (99, (.inl (po_aload 0 100))), (100, (.inl (po_get 1 2 103))), (103, (.inl (po_cv 77 0 6 1 106))), (106, (.inl (po_if1 (fun x => !decide (x = 0)) 121 109))), (109, (.inl (po_aload 0 110))), (110, (.inl (po_get 1 1 113))), (113, (.inl (po_cv 48 0 0 1 116))), (116, (.inl (po_push 48 118))), (118, (.inl (po_if2 (fun x y => decide (x ≤ y)) 123 121))), (123, (.inl (po_aload 0 124))), (124, (.inl (po_get 1 1 127))), (127, (.inl (po_cv 48 0 0 1 130))), (130, (.inl (po_iload 3 131))), (131, (.inl (po_if2 (fun x y => !decide (x = y)) 136 134))), (134, (.inl (po_push 0 135))), (135, (.inr (re_i)))] := pr_aS_c (pr_eI (os_aload_n (q := 0) dX1_closing_0)) (pr_aS_c (pr_eI (os_iconst dX1_closing_1 (by decide +kernel))) (pr_aS_c (pr_eI (os_puti (kf := 9) dX1_closing_2 cf_1 (by decide) wd_297 rfl rfl)) (pr_aS_c (pr_eI (os_aload_n (q := 0) dX1_closing_5)) (pr_aS_c (pr_eI (os_get (kf := 9) dX1_closing_6 cf_1 (by decide) wd_297)) (pr_aS_c (pr_eI (os_bipush dX1_closing_9 (by decide +kernel))) (pr_aS_c (pr_eI (os_icmp_ge dX1_closing_11 (by decide))) (pr_aS_c (pr_eI (os_aload_n (q := 0) dX1_closing_14)) (pr_aS_c (pr_eI (os_get (kf := 1) dX1_closing_15 cf_1 (by decide) wd_295)) (pr_aS_c (pr_eI (os_cv dX1_closing_18 (k := 48) rfl rfl cal_48 wd_298 wd_86 wd_85 rfl)) (pr_aS_c (pr_eI (os_istore_n (q := 3) dX1_closing_21 (by decide))) (pr_aS_c (pr_eI (os_aload_n (q := 0) dX1_closing_22)) (pr_aS_c (pr_eI (os_get (kf := 2) dX1_closing_23 cf_1 (by decide) wd_296)) (pr_aS_c (pr_eI (os_iload_n (q := 2) dX1_closing_26)) (pr_aS_c (pr_eI (os_cv dX1_closing_27 (k := 75) rfl rfl cal_75 wd_299 wd_301 wd_300 rfl)) (pr_aS_c (pr_eI (os_iconst dX1_closing_30 (by decide +kernel))) (pr_aS_c (pr_eI (os_istore dX1_closing_31 (by decide))) (pr_aS_c (pr_eI (os_iload dX1_closing_33)) (pr_aS_c (pr_eI (os_iload_n (q := 1) dX1_closing_35)) (pr_aS_c (pr_eI (os_icmp_ge dX1_closing_36 (by decide))) (pr_aS_c (pr_eI (os_aload_n (q := 0) dX1_closing_77)) (pr_aS_c (pr_eI (os_dup dX1_closing_78)) (pr_aS_c (pr_eI (os_get (kf := 9) dX1_closing_79 cf_1 (by decide) wd_297)) (pr_aS_c (pr_eI (os_iconst dX1_closing_82 (by decide +kernel))) (pr_aS_c (pr_eI (os_iadd dX1_closing_83)) (pr_aS_c (pr_eI (os_puti (kf := 9) dX1_closing_84 cf_1 (by decide) wd_297 rfl rfl)) (pr_aS_c (pr_eI (os_aload_n (q := 0) dX1_closing_87)) (pr_aS_c (pr_eI (os_get (kf := 2) dX1_closing_88 cf_1 (by decide) wd_296)) (pr_aS_c (pr_eI (os_cv dX1_closing_91 (k := 76) rfl rfl cal_76 wd_302 wd_304 wd_303 rfl)) (pr_aS_c (pr_eI (os_if_eq dX1_closing_94 (by decide))) (pr_aS_c (pr_eI (os_aload_n (q := 0) dX1_closing_99)) (pr_aS_c (pr_eI (os_get (kf := 2) dX1_closing_100 cf_1 (by decide) wd_296)) (pr_aS_c (pr_eI (os_cv dX1_closing_103 (k := 77) rfl rfl cal_77 wd_305 wd_307 wd_306 rfl)) (pr_aS_c (pr_eI (os_if_ne dX1_closing_106 (by decide))) (pr_aS_c (pr_eI (os_aload_n (q := 0) dX1_closing_109)) (pr_aS_c (pr_eI (os_get (kf := 1) dX1_closing_110 cf_1 (by decide) wd_295)) (pr_aS_c (pr_eI (os_cv dX1_closing_113 (k := 48) rfl rfl cal_48 wd_298 wd_86 wd_85 rfl)) (pr_aS_c (pr_eI (os_bipush dX1_closing_116 (by decide +kernel))) (pr_aS_c (pr_eI (os_icmp_le dX1_closing_118 (by decide))) (pr_aS_c (pr_eI (os_aload_n (q := 0) dX1_closing_123)) (pr_aS_c (pr_eI (os_get (kf := 1) dX1_closing_124 cf_1 (by decide) wd_295)) (pr_aS_c (pr_eI (os_cv dX1_closing_127 (k := 48) rfl rfl cal_48 wd_298 wd_86 wd_85 rfl)) (pr_aS_c (pr_eI (os_iload_n (q := 3) dX1_closing_130)) (pr_aS_c (pr_eI (os_icmp_ne dX1_closing_131 (by decide))) (pr_aS_c (pr_eI (os_iconst dX1_closing_134 (by decide +kernel))) (pr_aS_c (pr_eR (rs_i dX1_closing_135 rfl)) trivial)))))))))))))))))))))))))))))))))))))))))))))
