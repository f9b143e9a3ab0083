/-! code tables (laid by a program) -/
theorem dX14_token_0 : decode cX14_token 0 = .ok (.aload_n 0, 1) := by decide +kernel
theorem dX14_token_1 : decode cX14_token 1 = .ok (.getfield 181, 3) := by decide +kernel
theorem dX14_token_4 : decode cX14_token 4 = .ok (.aload_n 0, 1) := by decide +kernel
theorem dX14_token_5 : decode cX14_token 5 = .ok (.getfield 174, 3) := by decide +kernel
theorem dX14_token_8 : decode cX14_token 8 = .ok (.if_icmp .ge 30, 3) := by decide +kernel
theorem dX14_token_38 : decode cX14_token 38 = .ok (.aload_n 0, 1) := by decide +kernel
theorem dX14_token_39 : decode cX14_token 39 = .ok (.aload_n 0, 1) := by decide +kernel
theorem dX14_token_40 : decode cX14_token 40 = .ok (.getfield 181, 3) := by decide +kernel
theorem dX14_token_43 : decode cX14_token 43 = .ok (.putfield 184, 3) := by decide +kernel
theorem dX14_token_46 : decode cX14_token 46 = .ok (.aload_n 0, 1) := by decide +kernel
theorem dX14_token_47 : decode cX14_token 47 = .ok (.getfield 181, 3) := by decide +kernel
theorem dX14_token_50 : decode cX14_token 50 = .ok (.aload_n 0, 1) := by decide +kernel
theorem dX14_token_51 : decode cX14_token 51 = .ok (.getfield 174, 3) := by decide +kernel
theorem dX14_token_54 : decode cX14_token 54 = .ok (.if_icmp .ne 11, 3) := by decide +kernel
theorem dX14_token_57 : decode cX14_token 57 = .ok (.aload_n 0, 1) := by decide +kernel
theorem dX14_token_58 : decode cX14_token 58 = .ok (.iconst 0, 1) := by decide +kernel
theorem dX14_token_59 : decode cX14_token 59 = .ok (.putfield 187, 3) := by decide +kernel
theorem dX14_token_62 : decode cX14_token 62 = .ok (.goto 228, 3) := by decide +kernel
theorem dX14_token_290 : decode cX14_token 290 = .ok (.return_, 1) := by decide +kernel
/-- InferResolveModel.token()V -/
noncomputable def qc_18 : pr_Co := [(0, (.inl (po_aload 0 1))), (1, (.inl (po_get 14 11 4))), (4, (.inl (po_aload 0 5))), (5, (.inl (po_get 14 10 8))), (8, (.inl (po_if2 (fun x y => decide (y ≤ x)) 38 11))), (38, (.inl (po_aload 0 39))), (39, (.inl (po_aload 0 40))), (40, (.inl (po_get 14 11 43))), (43, (.inl (po_puti 14 13 46))), (46, (.inl (po_aload 0 47))), (47, (.inl (po_get 14 11 50))), (50, (.inl (po_aload 0 51))), (51, (.inl (po_get 14 10 54))), (54, (.inl (po_if2 (fun x y => !decide (x = y)) 65 57))), (57, (.inl (po_aload 0 58))), (58, (.inl (po_push 0 59))), (59, (.inl (po_puti 14 12 62))), (62, (.inl (po_goto 290))), (290, (.inr (re_v)))]
set_option maxRecDepth 100000 in
set_option maxHeartbeats 4000000 in
theorem qs_18 : pr_aS pr_ms m_18 [(0, (.inl (po_aload 0 1))), (1, (.inl (po_get 14 11 4))), (4, (.inl (po_aload 0 5))), (5, (.inl (po_get 14 10 8))), (8, (.inl (po_if2 (fun x y => decide (y ≤ x)) 38 11))), (38, (.inl (po_aload 0 39))), (39, (.inl (po_aload 0 40))), (40, (.inl (po_get 14 11 43))), (43, (.inl (po_puti 14 13 46))), (46, (.inl (po_aload 0 47))), (47, (.inl (po_get 14 11 50))), (50, (.inl (po_aload 0 51))), (51, (.inl (po_get 14 10 54))), (54, (.inl (po_if2 (fun x y => !decide (x = y)) 65 57))), (57, (.inl (po_aload 0 58))), (58, (.inl (po_push 0 59))), (59, (.inl (po_puti 14 12 62))), (62, (.inl (po_goto 290))), (290, (.inr (re_v)))] := pr_aS_c (pr_eI (os_aload_n (q := 0) dX14_token_0)) (pr_aS_c (pr_eI (os_get (kf := 11) dX14_token_1 cf_14 (by decide) wd_184)) (pr_aS_c (pr_eI (os_aload_n (q := 0) dX14_token_4)) (pr_aS_c (pr_eI (os_get (kf := 10) dX14_token_5 cf_14 (by decide) wd_185)) (pr_aS_c (pr_eI (os_icmp_ge dX14_token_8 (by decide))) (pr_aS_c (pr_eI (os_aload_n (q := 0) dX14_token_38)) (pr_aS_c (pr_eI (os_aload_n (q := 0) dX14_token_39)) (pr_aS_c (pr_eI (os_get (kf := 11) dX14_token_40 cf_14 (by decide) wd_184)) (pr_aS_c (pr_eI (os_puti (kf := 13) dX14_token_43 cf_14 (by decide) wd_186 rfl rfl)) (pr_aS_c (pr_eI (os_aload_n (q := 0) dX14_token_46)) (pr_aS_c (pr_eI (os_get (kf := 11) dX14_token_47 cf_14 (by decide) wd_184)) (pr_aS_c (pr_eI (os_aload_n (q := 0) dX14_token_50)) (pr_aS_c (pr_eI (os_get (kf := 10) dX14_token_51 cf_14 (by decide) wd_185)) (pr_aS_c (pr_eI (os_icmp_ne dX14_token_54 (by decide))) (pr_aS_c (pr_eI (os_aload_n (q := 0) dX14_token_57)) (pr_aS_c (pr_eI (os_iconst dX14_token_58 (by decide +kernel))) (pr_aS_c (pr_eI (os_puti (kf := 12) dX14_token_59 cf_14 (by decide) wd_187 rfl rfl)) (pr_aS_c (pr_eI (os_goto dX14_token_62 (by decide))) (pr_aS_c (pr_eR (rs_v dX14_token_290 rfl)) trivial))))))))))))))))))
theorem dX14_fault_0 : decode cX14_fault 0 = .ok (.aload_n 0, 1) := by decide +kernel
theorem dX14_fault_1 : decode cX14_fault 1 = .ok (.getfield 209, 3) := by decide +kernel
theorem dX14_fault_4 : decode cX14_fault 4 = .ok (.ifCond .ne 13, 3) := by decide +kernel
theorem dX14_fault_7 : decode cX14_fault 7 = .ok (.aload_n 0, 1) := by decide +kernel
theorem dX14_fault_8 : decode cX14_fault 8 = .ok (.iload_n 1, 1) := by decide +kernel
theorem dX14_fault_9 : decode cX14_fault 9 = .ok (.putfield 209, 3) := by decide +kernel
theorem dX14_fault_12 : decode cX14_fault 12 = .ok (.aload_n 0, 1) := by decide +kernel
theorem dX14_fault_13 : decode cX14_fault 13 = .ok (.iload_n 2, 1) := by decide +kernel
theorem dX14_fault_14 : decode cX14_fault 14 = .ok (.putfield 212, 3) := by decide +kernel
theorem dX14_fault_17 : decode cX14_fault 17 = .ok (.return_, 1) := by decide +kernel
/-- InferResolveModel.fault(II)V -/
noncomputable def qc_19 : pr_Co := [(0, (.inl (po_aload 0 1))), (1, (.inl (po_get 14 16 4))), (4, (.inl (po_if1 (fun x => !decide (x = 0)) 17 7))), (7, (.inl (po_aload 0 8))), (8, (.inl (po_iload 1 9))), (9, (.inl (po_puti 14 16 12))), (12, (.inl (po_aload 0 13))), (13, (.inl (po_iload 2 14))), (14, (.inl (po_puti 14 17 17))), (17, (.inr (re_v)))]
set_option maxRecDepth 100000 in
set_option maxHeartbeats 4000000 in
theorem qs_19 : pr_aS pr_ms m_19 [(0, (.inl (po_aload 0 1))), (1, (.inl (po_get 14 16 4))), (4, (.inl (po_if1 (fun x => !decide (x = 0)) 17 7))), (7, (.inl (po_aload 0 8))), (8, (.inl (po_iload 1 9))), (9, (.inl (po_puti 14 16 12))), (12, (.inl (po_aload 0 13))), (13, (.inl (po_iload 2 14))), (14, (.inl (po_puti 14 17 17))), (17, (.inr (re_v)))] := pr_aS_c (pr_eI (os_aload_n (q := 0) dX14_fault_0)) (pr_aS_c (pr_eI (os_get (kf := 16) dX14_fault_1 cf_14 (by decide) wd_188)) (pr_aS_c (pr_eI (os_if_ne dX14_fault_4 (by decide))) (pr_aS_c (pr_eI (os_aload_n (q := 0) dX14_fault_7)) (pr_aS_c (pr_eI (os_iload_n (q := 1) dX14_fault_8)) (pr_aS_c (pr_eI (os_puti (kf := 16) dX14_fault_9 cf_14 (by decide) wd_188 rfl rfl)) (pr_aS_c (pr_eI (os_aload_n (q := 0) dX14_fault_12)) (pr_aS_c (pr_eI (os_iload_n (q := 2) dX14_fault_13)) (pr_aS_c (pr_eI (os_puti (kf := 17) dX14_fault_14 cf_14 (by decide) wd_189 rfl rfl)) (pr_aS_c (pr_eR (rs_v dX14_fault_17 rfl)) trivial)))))))))
theorem dX14_good_0 : decode cX14_good 0 = .ok (.aload_n 0, 1) := by decide +kernel
theorem dX14_good_1 : decode cX14_good 1 = .ok (.getfield 209, 3) := by decide +kernel
theorem dX14_good_4 : decode cX14_good 4 = .ok (.ifCond .ne 7, 3) := by decide +kernel
theorem dX14_good_7 : decode cX14_good 7 = .ok (.iconst 1, 1) := by decide +kernel
theorem dX14_good_8 : decode cX14_good 8 = .ok (.goto 4, 3) := by decide +kernel
theorem dX14_good_11 : decode cX14_good 11 = .ok (.iconst 0, 1) := by decide +kernel
theorem dX14_good_12 : decode cX14_good 12 = .ok (.ireturn, 1) := by decide +kernel
/-- InferResolveModel.good()Z -/
noncomputable def qc_20 : pr_Co := [(0, (.inl (po_aload 0 1))), (1, (.inl (po_get 14 16 4))), (4, (.inl (po_if1 (fun x => !decide (x = 0)) 11 7))), (7, (.inl (po_push 1 8))), (8, (.inl (po_goto 12))), (11, (.inl (po_push 0 12))), (12, (.inr (re_z)))]
set_option maxRecDepth 100000 in
set_option maxHeartbeats 4000000 in
theorem qs_20 : pr_aS pr_ms m_20 [(0, (.inl (po_aload 0 1))), (1, (.inl (po_get 14 16 4))), (4, (.inl (po_if1 (fun x => !decide (x = 0)) 11 7))), (7, (.inl (po_push 1 8))), (8, (.inl (po_goto 12))), (11, (.inl (po_push 0 12))), (12, (.inr (re_z)))] := pr_aS_c (pr_eI (os_aload_n (q := 0) dX14_good_0)) (pr_aS_c (pr_eI (os_get (kf := 16) dX14_good_1 cf_14 (by decide) wd_188)) (pr_aS_c (pr_eI (os_if_ne dX14_good_4 (by decide))) (pr_aS_c (pr_eI (os_iconst dX14_good_7 (by decide +kernel))) (pr_aS_c (pr_eI (os_goto dX14_good_8 (by decide))) (pr_aS_c (pr_eI (os_iconst dX14_good_11 (by decide +kernel))) (pr_aS_c (pr_eR (rs_z dX14_good_12 rfl)) trivial))))))
theorem dX14_misplaced_0 : decode cX14_misplaced 0 = .ok (.aload_n 0, 1) := by decide +kernel
theorem dX14_misplaced_1 : decode cX14_misplaced 1 = .ok (.aload_n 0, 1) := by decide +kernel
theorem dX14_misplaced_2 : decode cX14_misplaced 2 = .ok (.getfield 187, 3) := by decide +kernel
theorem dX14_misplaced_5 : decode cX14_misplaced 5 = .ok (.iconst 4, 1) := by decide +kernel
theorem dX14_misplaced_6 : decode cX14_misplaced 6 = .ok (.if_icmp .ne 7, 3) := by decide +kernel
theorem dX14_misplaced_13 : decode cX14_misplaced 13 = .ok (.iconst 2, 1) := by decide +kernel
theorem dX14_misplaced_14 : decode cX14_misplaced 14 = .ok (.aload_n 0, 1) := by decide +kernel
theorem dX14_misplaced_15 : decode cX14_misplaced 15 = .ok (.getfield 184, 3) := by decide +kernel
theorem dX14_misplaced_18 : decode cX14_misplaced 18 = .ok (.invokevirtual 215, 3) := by decide +kernel
theorem dX14_misplaced_21 : decode cX14_misplaced 21 = .ok (.return_, 1) := by decide +kernel
/-- InferResolveModel.misplaced()V -/
noncomputable def qc_21 : pr_Co := [(0, (.inl (po_aload 0 1))), (1, (.inl (po_aload 0 2))), (2, (.inl (po_get 14 12 5))), (5, (.inl (po_push 4 6))), (6, (.inl (po_if2 (fun x y => !decide (x = y)) 13 9))), (13, (.inl (po_push 2 14))), (14, (.inl (po_aload 0 15))), (15, (.inl (po_get 14 13 18))), (18, (.inl (po_cv 19 2 14 3 21))), (21, (.inr (re_v)))]
set_option maxRecDepth 100000 in
set_option maxHeartbeats 4000000 in
theorem qs_21 : pr_aS pr_ms m_21 [(0, (.inl (po_aload 0 1))), (1, (.inl (po_aload 0 2))), (2, (.inl (po_get 14 12 5))), (5, (.inl (po_push 4 6))), (6, (.inl (po_if2 (fun x y => !decide (x = y)) 13 9))), (13, (.inl (po_push 2 14))), (14, (.inl (po_aload 0 15))), (15, (.inl (po_get 14 13 18))), (18, (.inl (po_cv 19 2 14 3 21))), (21, (.inr (re_v)))] := pr_aS_c (pr_eI (os_aload_n (q := 0) dX14_misplaced_0)) (pr_aS_c (pr_eI (os_aload_n (q := 0) dX14_misplaced_1)) (pr_aS_c (pr_eI (os_get (kf := 12) dX14_misplaced_2 cf_14 (by decide) wd_187)) (pr_aS_c (pr_eI (os_iconst dX14_misplaced_5 (by decide +kernel))) (pr_aS_c (pr_eI (os_icmp_ne dX14_misplaced_6 (by decide))) (pr_aS_c (pr_eI (os_iconst dX14_misplaced_13 (by decide +kernel))) (pr_aS_c (pr_eI (os_aload_n (q := 0) dX14_misplaced_14)) (pr_aS_c (pr_eI (os_get (kf := 13) dX14_misplaced_15 cf_14 (by decide) wd_186)) (pr_aS_c (pr_eI (os_cv dX14_misplaced_18 (k := 19) rfl rfl cal_19 wd_190 wd_192 wd_191 rfl)) (pr_aS_c (pr_eR (rs_v dX14_misplaced_21 rfl)) trivial)))))))))
theorem dX14_is_0 : decode cX14_is 0 = .ok (.aload_n 0, 1) := by decide +kernel
theorem dX14_is_1 : decode cX14_is 1 = .ok (.invokevirtual 219, 3) := by decide +kernel
theorem dX14_is_4 : decode cX14_is 4 = .ok (.ifCond .eq 23, 3) := by decide +kernel
theorem dX14_is_27 : decode cX14_is 27 = .ok (.iconst 0, 1) := by decide +kernel
theorem dX14_is_28 : decode cX14_is 28 = .ok (.ireturn, 1) := by decide +kernel
/-- InferResolveModel.is(I)Z -/
noncomputable def qc_22 : pr_Co := [(0, (.inl (po_aload 0 1))), (1, (.inl (po_cv 20 0 14 1 4))), (4, (.inl (po_if1 (fun x => decide (x = 0)) 27 7))), (27, (.inl (po_push 0 28))), (28, (.inr (re_z)))]
set_option maxRecDepth 100000 in
set_option maxHeartbeats 4000000 in
theorem qs_22 : pr_aS pr_ms m_22 [(0, (.inl (po_aload 0 1))), (1, (.inl (po_cv 20 0 14 1 4))), (4, (.inl (po_if1 (fun x => decide (x = 0)) 27 7))), (27, (.inl (po_push 0 28))), (28, (.inr (re_z)))] := pr_aS_c (pr_eI (os_aload_n (q := 0) dX14_is_0)) (pr_aS_c (pr_eI (os_cv dX14_is_1 (k := 20) rfl rfl cal_20 wd_193 wd_195 wd_194 rfl)) (pr_aS_c (pr_eI (os_if_eq dX14_is_4 (by decide))) (pr_aS_c (pr_eI (os_iconst dX14_is_27 (by decide +kernel))) (pr_aS_c (pr_eR (rs_z dX14_is_28 rfl)) trivial))))
theorem dX14_take_0 : decode cX14_take 0 = .ok (.aload_n 0, 1) := by decide +kernel
theorem dX14_take_1 : decode cX14_take 1 = .ok (.iload_n 1, 1) := by decide +kernel
theorem dX14_take_2 : decode cX14_take 2 = .ok (.invokevirtual 223, 3) := by decide +kernel
theorem dX14_take_5 : decode cX14_take 5 = .ok (.ifCond .eq 10, 3) := by decide +kernel
theorem dX14_take_15 : decode cX14_take 15 = .ok (.aload_n 0, 1) := by decide +kernel
theorem dX14_take_16 : decode cX14_take 16 = .ok (.invokevirtual 228, 3) := by decide +kernel
theorem dX14_take_19 : decode cX14_take 19 = .ok (.return_, 1) := by decide +kernel
/-- InferResolveModel.take(I)V -/
noncomputable def qc_23 : pr_Co := [(0, (.inl (po_aload 0 1))), (1, (.inl (po_iload 1 2))), (2, (.inl (po_cv 22 1 14 2 5))), (5, (.inl (po_if1 (fun x => decide (x = 0)) 15 8))), (15, (.inl (po_aload 0 16))), (16, (.inl (po_cv 21 0 14 1 19))), (19, (.inr (re_v)))]
set_option maxRecDepth 100000 in
set_option maxHeartbeats 4000000 in
theorem qs_23 : pr_aS pr_ms m_23 [(0, (.inl (po_aload 0 1))), (1, (.inl (po_iload 1 2))), (2, (.inl (po_cv 22 1 14 2 5))), (5, (.inl (po_if1 (fun x => decide (x = 0)) 15 8))), (15, (.inl (po_aload 0 16))), (16, (.inl (po_cv 21 0 14 1 19))), (19, (.inr (re_v)))] := pr_aS_c (pr_eI (os_aload_n (q := 0) dX14_take_0)) (pr_aS_c (pr_eI (os_iload_n (q := 1) dX14_take_1)) (pr_aS_c (pr_eI (os_cv dX14_take_2 (k := 22) rfl rfl cal_22 wd_196 wd_198 wd_197 rfl)) (pr_aS_c (pr_eI (os_if_eq dX14_take_5 (by decide))) (pr_aS_c (pr_eI (os_aload_n (q := 0) dX14_take_15)) (pr_aS_c (pr_eI (os_cv dX14_take_16 (k := 21) rfl rfl cal_21 wd_199 wd_201 wd_200 rfl)) (pr_aS_c (pr_eR (rs_v dX14_take_19 rfl)) trivial))))))
theorem dX14_begin__0 : decode cX14_begin_ 0 = .ok (.aload_n 0, 1) := by decide +kernel
theorem dX14_begin__1 : decode cX14_begin_ 1 = .ok (.iconst 0, 1) := by decide +kernel
theorem dX14_begin__2 : decode cX14_begin_ 2 = .ok (.putfield 181, 3) := by decide +kernel
theorem dX14_begin__5 : decode cX14_begin_ 5 = .ok (.aload_n 0, 1) := by decide +kernel
theorem dX14_begin__6 : decode cX14_begin_ 6 = .ok (.iconst 0, 1) := by decide +kernel
theorem dX14_begin__7 : decode cX14_begin_ 7 = .ok (.putfield 11, 3) := by decide +kernel
theorem dX14_begin__10 : decode cX14_begin_ 10 = .ok (.aload_n 0, 1) := by decide +kernel
theorem dX14_begin__11 : decode cX14_begin_ 11 = .ok (.iconst 0, 1) := by decide +kernel
theorem dX14_begin__12 : decode cX14_begin_ 12 = .ok (.putfield 209, 3) := by decide +kernel
theorem dX14_begin__15 : decode cX14_begin_ 15 = .ok (.aload_n 0, 1) := by decide +kernel
theorem dX14_begin__16 : decode cX14_begin_ 16 = .ok (.invokevirtual 226, 3) := by decide +kernel
theorem dX14_begin__19 : decode cX14_begin_ 19 = .ok (.return_, 1) := by decide +kernel
/-- InferResolveModel.begin()V -/
noncomputable def qc_24 : pr_Co := [(0, (.inl (po_aload 0 1))), (1, (.inl (po_push 0 2))), (2, (.inl (po_puti 14 11 5))), (5, (.inl (po_aload 0 6))), (6, (.inl (po_push 0 7))), (7, (.inl (po_puti 14 4 10))), (10, (.inl (po_aload 0 11))), (11, (.inl (po_push 0 12))), (12, (.inl (po_puti 14 16 15))), (15, (.inl (po_aload 0 16))), (16, (.inl (po_cv 18 0 14 1 19))), (19, (.inr (re_v)))]
set_option maxRecDepth 100000 in
set_option maxHeartbeats 4000000 in
theorem qs_24 : pr_aS pr_ms m_24 [(0, (.inl (po_aload 0 1))), (1, (.inl (po_push 0 2))), (2, (.inl (po_puti 14 11 5))), (5, (.inl (po_aload 0 6))), (6, (.inl (po_push 0 7))), (7, (.inl (po_puti 14 4 10))), (10, (.inl (po_aload 0 11))), (11, (.inl (po_push 0 12))), (12, (.inl (po_puti 14 16 15))), (15, (.inl (po_aload 0 16))), (16, (.inl (po_cv 18 0 14 1 19))), (19, (.inr (re_v)))] := pr_aS_c (pr_eI (os_aload_n (q := 0) dX14_begin__0)) (pr_aS_c (pr_eI (os_iconst dX14_begin__1 (by decide +kernel))) (pr_aS_c (pr_eI (os_puti (kf := 11) dX14_begin__2 cf_14 (by decide) wd_184 rfl rfl)) (pr_aS_c (pr_eI (os_aload_n (q := 0) dX14_begin__5)) (pr_aS_c (pr_eI (os_iconst dX14_begin__6 (by decide +kernel))) (pr_aS_c (pr_eI (os_puti (kf := 4) dX14_begin__7 cf_14 (by decide) wd_127 rfl rfl)) (pr_aS_c (pr_eI (os_aload_n (q := 0) dX14_begin__10)) (pr_aS_c (pr_eI (os_iconst dX14_begin__11 (by decide +kernel))) (pr_aS_c (pr_eI (os_puti (kf := 16) dX14_begin__12 cf_14 (by decide) wd_188 rfl rfl)) (pr_aS_c (pr_eI (os_aload_n (q := 0) dX14_begin__15)) (pr_aS_c (pr_eI (os_cv dX14_begin__16 (k := 18) rfl rfl cal_18 wd_202 wd_204 wd_203 rfl)) (pr_aS_c (pr_eR (rs_v dX14_begin__19 rfl)) trivial)))))))))))
theorem dX14_taken_0 : decode cX14_taken 0 = .ok (.aload_n 0, 1) := by decide +kernel
theorem dX14_taken_1 : decode cX14_taken 1 = .ok (.iconst 0, 1) := by decide +kernel
theorem dX14_taken_2 : decode cX14_taken 2 = .ok (.putfield 174, 3) := by decide +kernel
theorem dX14_taken_5 : decode cX14_taken 5 = .ok (.aload_n 0, 1) := by decide +kernel
theorem dX14_taken_6 : decode cX14_taken 6 = .ok (.aload_n 0, 1) := by decide +kernel
theorem dX14_taken_7 : decode cX14_taken 7 = .ok (.getfield 209, 3) := by decide +kernel
theorem dX14_taken_10 : decode cX14_taken 10 = .ok (.putfield 231, 3) := by decide +kernel
theorem dX14_taken_13 : decode cX14_taken 13 = .ok (.aload_n 0, 1) := by decide +kernel
theorem dX14_taken_14 : decode cX14_taken 14 = .ok (.invokevirtual 219, 3) := by decide +kernel
theorem dX14_taken_17 : decode cX14_taken 17 = .ok (.ifCond .eq 7, 3) := by decide +kernel
theorem dX14_taken_20 : decode cX14_taken 20 = .ok (.iconst 0, 1) := by decide +kernel
theorem dX14_taken_21 : decode cX14_taken 21 = .ok (.goto 10, 3) := by decide +kernel
theorem dX14_taken_24 : decode cX14_taken 24 = .ok (.bipush (-10), 2) := by decide +kernel
theorem dX14_taken_26 : decode cX14_taken 26 = .ok (.aload_n 0, 1) := by decide +kernel
theorem dX14_taken_27 : decode cX14_taken 27 = .ok (.getfield 212, 3) := by decide +kernel
theorem dX14_taken_30 : decode cX14_taken 30 = .ok (.isub, 1) := by decide +kernel
theorem dX14_taken_31 : decode cX14_taken 31 = .ok (.ireturn, 1) := by decide +kernel
/-- InferResolveModel.taken()I -/
noncomputable def qc_25 : pr_Co := [(0, (.inl (po_aload 0 1))), (1, (.inl (po_push 0 2))), (2, (.inl (po_puti 14 10 5))), (5, (.inl (po_aload 0 6))), (6, (.inl (po_aload 0 7))), (7, (.inl (po_get 14 16 10))), (10, (.inl (po_puti 14 18 13))), (13, (.inl (po_aload 0 14))), (14, (.inl (po_cv 20 0 14 1 17))), (17, (.inl (po_if1 (fun x => decide (x = 0)) 24 20))), (20, (.inl (po_push 0 21))), (21, (.inl (po_goto 31))), (24, (.inl (po_push (-10) 26))), (26, (.inl (po_aload 0 27))), (27, (.inl (po_get 14 17 30))), (30, (.inl (po_i2 (fun x y => x - y) 31))), (31, (.inr (re_i)))]
set_option maxRecDepth 100000 in
set_option maxHeartbeats 4000000 in
theorem qs_25 : pr_aS pr_ms m_25 [(0, (.inl (po_aload 0 1))), (1, (.inl (po_push 0 2))), (2, (.inl (po_puti 14 10 5))), (5, (.inl (po_aload 0 6))), (6, (.inl (po_aload 0 7))), (7, (.inl (po_get 14 16 10))), (10, (.inl (po_puti 14 18 13))), (13, (.inl (po_aload 0 14))), (14, (.inl (po_cv 20 0 14 1 17))), (17, (.inl (po_if1 (fun x => decide (x = 0)) 24 20))), (20, (.inl (po_push 0 21))), (21, (.inl (po_goto 31))), (24, (.inl (po_push (-10) 26))), (26, (.inl (po_aload 0 27))), (27, (.inl (po_get 14 17 30))), (30, (.inl (po_i2 (fun x y => x - y) 31))), (31, (.inr (re_i)))] := pr_aS_c (pr_eI (os_aload_n (q := 0) dX14_taken_0)) (pr_aS_c (pr_eI (os_iconst dX14_taken_1 (by decide +kernel))) (pr_aS_c (pr_eI (os_puti (kf := 10) dX14_taken_2 cf_14 (by decide) wd_185 rfl rfl)) (pr_aS_c (pr_eI (os_aload_n (q := 0) dX14_taken_5)) (pr_aS_c (pr_eI (os_aload_n (q := 0) dX14_taken_6)) (pr_aS_c (pr_eI (os_get (kf := 16) dX14_taken_7 cf_14 (by decide) wd_188)) (pr_aS_c (pr_eI (os_puti (kf := 18) dX14_taken_10 cf_14 (by decide) wd_205 rfl rfl)) (pr_aS_c (pr_eI (os_aload_n (q := 0) dX14_taken_13)) (pr_aS_c (pr_eI (os_cv dX14_taken_14 (k := 20) rfl rfl cal_20 wd_193 wd_195 wd_194 rfl)) (pr_aS_c (pr_eI (os_if_eq dX14_taken_17 (by decide))) (pr_aS_c (pr_eI (os_iconst dX14_taken_20 (by decide +kernel))) (pr_aS_c (pr_eI (os_goto dX14_taken_21 (by decide))) (pr_aS_c (pr_eI (os_bipush dX14_taken_24 (by decide +kernel))) (pr_aS_c (pr_eI (os_aload_n (q := 0) dX14_taken_26)) (pr_aS_c (pr_eI (os_get (kf := 17) dX14_taken_27 cf_14 (by decide) wd_189)) (pr_aS_c (pr_eI (os_isub dX14_taken_30)) (pr_aS_c (pr_eR (rs_i dX14_taken_31 rfl)) trivial))))))))))))))))
theorem dX14_type_0 : decode cX14_type 0 = .ok (.aload_n 0, 1) := by decide +kernel
theorem dX14_type_1 : decode cX14_type 1 = .ok (.invokevirtual 219, 3) := by decide +kernel
theorem dX14_type_4 : decode cX14_type 4 = .ok (.ifCond .ne 5, 3) := by decide +kernel
theorem dX14_type_7 : decode cX14_type 7 = .ok (.iconst (-1), 1) := by decide +kernel
theorem dX14_type_8 : decode cX14_type 8 = .ok (.ireturn, 1) := by decide +kernel
theorem dX14_type_9 : decode cX14_type 9 = .ok (.aload_n 0, 1) := by decide +kernel
theorem dX14_type_10 : decode cX14_type 10 = .ok (.getfield 187, 3) := by decide +kernel
theorem dX14_type_13 : decode cX14_type 13 = .ok (.iconst 2, 1) := by decide +kernel
theorem dX14_type_14 : decode cX14_type 14 = .ok (.if_icmp .ne 42, 3) := by decide +kernel
theorem dX14_type_56 : decode cX14_type 56 = .ok (.aload_n 0, 1) := by decide +kernel
theorem dX14_type_57 : decode cX14_type 57 = .ok (.getfield 187, 3) := by decide +kernel
theorem dX14_type_60 : decode cX14_type 60 = .ok (.iconst 1, 1) := by decide +kernel
theorem dX14_type_61 : decode cX14_type 61 = .ok (.if_icmp .eq 9, 3) := by decide +kernel
theorem dX14_type_64 : decode cX14_type 64 = .ok (.aload_n 0, 1) := by decide +kernel
theorem dX14_type_65 : decode cX14_type 65 = .ok (.invokevirtual 228, 3) := by decide +kernel
theorem dX14_type_68 : decode cX14_type 68 = .ok (.iconst (-1), 1) := by decide +kernel
theorem dX14_type_69 : decode cX14_type 69 = .ok (.ireturn, 1) := by decide +kernel
/-- InferResolveModel.type(LInferResolveModel$Kinds;LInferResolveModel$Store;III)I -/
noncomputable def qc_26 : pr_Co := [(0, (.inl (po_aload 0 1))), (1, (.inl (po_cv 20 0 14 1 4))), (4, (.inl (po_if1 (fun x => !decide (x = 0)) 9 7))), (7, (.inl (po_push (-1) 8))), (8, (.inr (re_i))), (9, (.inl (po_aload 0 10))), (10, (.inl (po_get 14 12 13))), (13, (.inl (po_push 2 14))), (14, (.inl (po_if2 (fun x y => !decide (x = y)) 56 17))), (56, (.inl (po_aload 0 57))), (57, (.inl (po_get 14 12 60))), (60, (.inl (po_push 1 61))), (61, (.inl (po_if2 (fun x y => decide (x = y)) 70 64))), (64, (.inl (po_aload 0 65))), (65, (.inl (po_cv 21 0 14 1 68))), (68, (.inl (po_push (-1) 69))), (69, (.inr (re_i)))]
set_option maxRecDepth 100000 in
set_option maxHeartbeats 4000000 in
theorem qs_26 : pr_aS pr_ms m_26 [(0, (.inl (po_aload 0 1))), (1, (.inl (po_cv 20 0 14 1 4))), (4, (.inl (po_if1 (fun x => !decide (x = 0)) 9 7))), (7, (.inl (po_push (-1) 8))), (8, (.inr (re_i))), (9, (.inl (po_aload 0 10))), (10, (.inl (po_get 14 12 13))), (13, (.inl (po_push 2 14))), (14, (.inl (po_if2 (fun x y => !decide (x = y)) 56 17))), (56, (.inl (po_aload 0 57))), (57, (.inl (po_get 14 12 60))), (60, (.inl (po_push 1 61))), (61, (.inl (po_if2 (fun x y => decide (x = y)) 70 64))), (64, (.inl (po_aload 0 65))), (65, (.inl (po_cv 21 0 14 1 68))), (68, (.inl (po_push (-1) 69))), (69, (.inr (re_i)))] := pr_aS_c (pr_eI (os_aload_n (q := 0) dX14_type_0)) (pr_aS_c (pr_eI (os_cv dX14_type_1 (k := 20) rfl rfl cal_20 wd_193 wd_195 wd_194 rfl)) (pr_aS_c (pr_eI (os_if_ne dX14_type_4 (by decide))) (pr_aS_c (pr_eI (os_iconst dX14_type_7 (by decide +kernel))) (pr_aS_c (pr_eR (rs_i dX14_type_8 rfl)) (pr_aS_c (pr_eI (os_aload_n (q := 0) dX14_type_9)) (pr_aS_c (pr_eI (os_get (kf := 12) dX14_type_10 cf_14 (by decide) wd_187)) (pr_aS_c (pr_eI (os_iconst dX14_type_13 (by decide +kernel))) (pr_aS_c (pr_eI (os_icmp_ne dX14_type_14 (by decide))) (pr_aS_c (pr_eI (os_aload_n (q := 0) dX14_type_56)) (pr_aS_c (pr_eI (os_get (kf := 12) dX14_type_57 cf_14 (by decide) wd_187)) (pr_aS_c (pr_eI (os_iconst dX14_type_60 (by decide +kernel))) (pr_aS_c (pr_eI (os_icmp_eq dX14_type_61 (by decide))) (pr_aS_c (pr_eI (os_aload_n (q := 0) dX14_type_64)) (pr_aS_c (pr_eI (os_cv dX14_type_65 (k := 21) rfl rfl cal_21 wd_199 wd_201 wd_200 rfl)) (pr_aS_c (pr_eI (os_iconst dX14_type_68 (by decide +kernel))) (pr_aS_c (pr_eR (rs_i dX14_type_69 rfl)) trivial))))))))))))))))
theorem dX14_kinds_0 : decode cX14_kinds 0 = .ok (.aload_n 0, 1) := by decide +kernel
theorem dX14_kinds_1 : decode cX14_kinds 1 = .ok (.iconst 0, 1) := by decide +kernel
theorem dX14_kinds_2 : decode cX14_kinds 2 = .ok (.putfield 1, 3) := by decide +kernel
theorem dX14_kinds_5 : decode cX14_kinds 5 = .ok (.aload_n 0, 1) := by decide +kernel
theorem dX14_kinds_6 : decode cX14_kinds 6 = .ok (.getfield 37, 3) := by decide +kernel
theorem dX14_kinds_9 : decode cX14_kinds 9 = .ok (.invokevirtual 98, 3) := by decide +kernel
theorem dX14_kinds_12 : decode cX14_kinds 12 = .ok (.aload_n 0, 1) := by decide +kernel
theorem dX14_kinds_13 : decode cX14_kinds 13 = .ok (.aload_n 0, 1) := by decide +kernel
theorem dX14_kinds_14 : decode cX14_kinds 14 = .ok (.getfield 47, 3) := by decide +kernel
theorem dX14_kinds_17 : decode cX14_kinds 17 = .ok (.aload_n 0, 1) := by decide +kernel
theorem dX14_kinds_18 : decode cX14_kinds 18 = .ok (.getfield 37, 3) := by decide +kernel
theorem dX14_kinds_21 : decode cX14_kinds 21 = .ok (.invokevirtual 101, 3) := by decide +kernel
theorem dX14_kinds_24 : decode cX14_kinds 24 = .ok (.aload_n 0, 1) := by decide +kernel
theorem dX14_kinds_25 : decode cX14_kinds 25 = .ok (.invokevirtual 269, 3) := by decide +kernel
theorem dX14_kinds_28 : decode cX14_kinds 28 = .ok (.aload_n 0, 1) := by decide +kernel
theorem dX14_kinds_29 : decode cX14_kinds 29 = .ok (.invokevirtual 219, 3) := by decide +kernel
theorem dX14_kinds_32 : decode cX14_kinds 32 = .ok (.ifCond .eq 17, 3) := by decide +kernel
theorem dX14_kinds_35 : decode cX14_kinds 35 = .ok (.aload_n 0, 1) := by decide +kernel
theorem dX14_kinds_36 : decode cX14_kinds 36 = .ok (.getfield 187, 3) := by decide +kernel
theorem dX14_kinds_39 : decode cX14_kinds 39 = .ok (.ifCond .eq 10, 3) := by decide +kernel
theorem dX14_kinds_49 : decode cX14_kinds 49 = .ok (.aload_n 0, 1) := by decide +kernel
theorem dX14_kinds_50 : decode cX14_kinds 50 = .ok (.invokevirtual 274, 3) := by decide +kernel
theorem dX14_kinds_53 : decode cX14_kinds 53 = .ok (.istore_n 1, 1) := by decide +kernel
theorem dX14_kinds_54 : decode cX14_kinds 54 = .ok (.iload_n 1, 1) := by decide +kernel
theorem dX14_kinds_55 : decode cX14_kinds 55 = .ok (.ifCond .ge 5, 3) := by decide +kernel
theorem dX14_kinds_60 : decode cX14_kinds 60 = .ok (.aload_n 0, 1) := by decide +kernel
theorem dX14_kinds_61 : decode cX14_kinds 61 = .ok (.getfield 43, 3) := by decide +kernel
theorem dX14_kinds_64 : decode cX14_kinds 64 = .ok (.astore_n 2, 1) := by decide +kernel
theorem dX14_kinds_65 : decode cX14_kinds 65 = .ok (.aload_n 0, 1) := by decide +kernel
theorem dX14_kinds_66 : decode cX14_kinds 66 = .ok (.aload_n 0, 1) := by decide +kernel
theorem dX14_kinds_67 : decode cX14_kinds 67 = .ok (.getfield 47, 3) := by decide +kernel
theorem dX14_kinds_70 : decode cX14_kinds 70 = .ok (.putfield 43, 3) := by decide +kernel
theorem dX14_kinds_73 : decode cX14_kinds 73 = .ok (.aload_n 0, 1) := by decide +kernel
theorem dX14_kinds_74 : decode cX14_kinds 74 = .ok (.aload_n 2, 1) := by decide +kernel
theorem dX14_kinds_75 : decode cX14_kinds 75 = .ok (.putfield 47, 3) := by decide +kernel
theorem dX14_kinds_78 : decode cX14_kinds 78 = .ok (.aload_n 0, 1) := by decide +kernel
theorem dX14_kinds_79 : decode cX14_kinds 79 = .ok (.getfield 20, 3) := by decide +kernel
theorem dX14_kinds_82 : decode cX14_kinds 82 = .ok (.astore_n 3, 1) := by decide +kernel
theorem dX14_kinds_83 : decode cX14_kinds 83 = .ok (.aload_n 0, 1) := by decide +kernel
theorem dX14_kinds_84 : decode cX14_kinds 84 = .ok (.aload_n 0, 1) := by decide +kernel
theorem dX14_kinds_85 : decode cX14_kinds 85 = .ok (.getfield 37, 3) := by decide +kernel
theorem dX14_kinds_88 : decode cX14_kinds 88 = .ok (.putfield 20, 3) := by decide +kernel
theorem dX14_kinds_91 : decode cX14_kinds 91 = .ok (.aload_n 0, 1) := by decide +kernel
theorem dX14_kinds_92 : decode cX14_kinds 92 = .ok (.aload_n 3, 1) := by decide +kernel
theorem dX14_kinds_93 : decode cX14_kinds 93 = .ok (.putfield 37, 3) := by decide +kernel
theorem dX14_kinds_96 : decode cX14_kinds 96 = .ok (.aload_n 0, 1) := by decide +kernel
theorem dX14_kinds_97 : decode cX14_kinds 97 = .ok (.invokevirtual 277, 3) := by decide +kernel
theorem dX14_kinds_100 : decode cX14_kinds 100 = .ok (.aload_n 0, 1) := by decide +kernel
theorem dX14_kinds_101 : decode cX14_kinds 101 = .ok (.getfield 43, 3) := by decide +kernel
theorem dX14_kinds_104 : decode cX14_kinds 104 = .ok (.getfield 115, 3) := by decide +kernel
theorem dX14_kinds_107 : decode cX14_kinds 107 = .ok (.ireturn, 1) := by decide +kernel
/-- InferResolveModel.kinds()I -/
noncomputable def qc_27 : pr_Co := [(0, (.inl (po_aload 0 1))), (1, (.inl (po_push 0 2))), (2, (.inl (po_puti 14 0 5))), (5, (.inl (po_aload 0 6))), (6, (.inl (po_get 14 2 9))), (9, (.inl (po_cv 95 0 13 3 12))), (12, (.inl (po_aload 0 13))), (13, (.inl (po_aload 0 14))), (14, (.inl (po_get 14 6 17))), (17, (.inl (po_aload 0 18))), (18, (.inl (po_get 14 2 21))), (21, (.inl (po_cv 17 2 14 5 24))), (24, (.inl (po_aload 0 25))), (25, (.inl (po_cv 24 0 14 1 28))), (28, (.inl (po_aload 0 29))), (29, (.inl (po_cv 20 0 14 1 32))), (32, (.inl (po_if1 (fun x => decide (x = 0)) 49 35))), (35, (.inl (po_aload 0 36))), (36, (.inl (po_get 14 12 39))), (39, (.inl (po_if1 (fun x => decide (x = 0)) 49 42))), (49, (.inl (po_aload 0 50))), (50, (.inl (po_cv 25 0 14 1 53))), (53, (.inl (po_istore 1 54))), (54, (.inl (po_iload 1 55))), (55, (.inl (po_if1 (fun x => decide (0 ≤ x)) 60 58))), (60, (.inl (po_aload 0 61))), (61, (.inl (po_get 14 5 64))), (64, (.inl (po_astore 2 65))), (65, (.inl (po_aload 0 66))), (66, (.inl (po_aload 0 67))), (67, (.inl (po_get 14 6 70))), (70, (.inl (po_putr 14 5 73))), (73, (.inl (po_aload 0 74))), (74, (.inl (po_aload 2 75))), (75, (.inl (po_putr 14 6 78))), (78, (.inl (po_aload 0 79))), (79, (.inl (po_get 14 1 82))), (82, (.inl (po_astore 3 83))), (83, (.inl (po_aload 0 84))), (84, (.inl (po_aload 0 85))), (85, (.inl (po_get 14 2 88))), (88, (.inl (po_putr 14 1 91))), (91, (.inl (po_aload 0 92))), (92, (.inl (po_aload 3 93))), (93, (.inl (po_putr 14 2 96))), (96, (.inl (po_aload 0 97))), (97, (.inl (po_cv 29 0 14 1 100))), (100, (.inl (po_aload 0 101))), (101, (.inl (po_get 14 5 104))), (104, (.inl (po_get 12 0 107))), (107, (.inr (re_i)))]
set_option maxRecDepth 100000 in
set_option maxHeartbeats 4000000 in
theorem qs_27 : pr_aS pr_ms m_27 [(0, (.inl (po_aload 0 1))), (1, (.inl (po_push 0 2))), (2, (.inl (po_puti 14 0 5))), (5, (.inl (po_aload 0 6))), (6, (.inl (po_get 14 2 9))), (9, (.inl (po_cv 95 0 13 3 12))), (12, (.inl (po_aload 0 13))), (13, (.inl (po_aload 0 14))), (14, (.inl (po_get 14 6 17))), (17, (.inl (po_aload 0 18))), (18, (.inl (po_get 14 2 21))), (21, (.inl (po_cv 17 2 14 5 24))), (24, (.inl (po_aload 0 25))), (25, (.inl (po_cv 24 0 14 1 28))), (28, (.inl (po_aload 0 29))), (29, (.inl (po_cv 20 0 14 1 32))), (32, (.inl (po_if1 (fun x => decide (x = 0)) 49 35))), (35, (.inl (po_aload 0 36))), (36, (.inl (po_get 14 12 39))), (39, (.inl (po_if1 (fun x => decide (x = 0)) 49 42))), (49, (.inl (po_aload 0 50))), (50, (.inl (po_cv 25 0 14 1 53))), (53, (.inl (po_istore 1 54))), (54, (.inl (po_iload 1 55))), (55, (.inl (po_if1 (fun x => decide (0 ≤ x)) 60 58))), (60, (.inl (po_aload 0 61))), (61, (.inl (po_get 14 5 64))), (64, (.inl (po_astore 2 65))), (65, (.inl (po_aload 0 66))), (66, (.inl (po_aload 0 67))), (67, (.inl (po_get 14 6 70))), (70, (.inl (po_putr 14 5 73))), (73, (.inl (po_aload 0 74))), (74, (.inl (po_aload 2 75))), (75, (.inl (po_putr 14 6 78))), (78, (.inl (po_aload 0 79))), (79, (.inl (po_get 14 1 82))), (82, (.inl (po_astore 3 83))), (83, (.inl (po_aload 0 84))), (84, (.inl (po_aload 0 85))), (85, (.inl (po_get 14 2 88))), (88, (.inl (po_putr 14 1 91))), (91, (.inl (po_aload 0 92))), (92, (.inl (po_aload 3 93))), (93, (.inl (po_putr 14 2 96))), (96, (.inl (po_aload 0 97))), (97, (.inl (po_cv 29 0 14 1 100))), (100, (.inl (po_aload 0 101))), (101, (.inl (po_get 14 5 104))), (104, (.inl (po_get 12 0 107))), (107, (.inr (re_i)))] := pr_aS_c (pr_eI (os_aload_n (q := 0) dX14_kinds_0)) (pr_aS_c (pr_eI (os_iconst dX14_kinds_1 (by decide +kernel))) (pr_aS_c (pr_eI (os_puti (kf := 0) dX14_kinds_2 cf_14 (by decide) wd_206 rfl rfl)) (pr_aS_c (pr_eI (os_aload_n (q := 0) dX14_kinds_5)) (pr_aS_c (pr_eI (os_get (kf := 2) dX14_kinds_6 cf_14 (by decide) wd_137)) (pr_aS_c (pr_eI (os_cv dX14_kinds_9 (k := 95) rfl rfl cal_95 wd_165 wd_167 wd_166 rfl)) (pr_aS_c (pr_eI (os_aload_n (q := 0) dX14_kinds_12)) (pr_aS_c (pr_eI (os_aload_n (q := 0) dX14_kinds_13)) (pr_aS_c (pr_eI (os_get (kf := 6) dX14_kinds_14 cf_14 (by decide) wd_144)) (pr_aS_c (pr_eI (os_aload_n (q := 0) dX14_kinds_17)) (pr_aS_c (pr_eI (os_get (kf := 2) dX14_kinds_18 cf_14 (by decide) wd_137)) (pr_aS_c (pr_eI (os_cv dX14_kinds_21 (k := 17) rfl rfl cal_17 wd_168 wd_170 wd_169 rfl)) (pr_aS_c (pr_eI (os_aload_n (q := 0) dX14_kinds_24)) (pr_aS_c (pr_eI (os_cv dX14_kinds_25 (k := 24) rfl rfl cal_24 wd_207 wd_209 wd_208 rfl)) (pr_aS_c (pr_eI (os_aload_n (q := 0) dX14_kinds_28)) (pr_aS_c (pr_eI (os_cv dX14_kinds_29 (k := 20) rfl rfl cal_20 wd_193 wd_195 wd_194 rfl)) (pr_aS_c (pr_eI (os_if_eq dX14_kinds_32 (by decide))) (pr_aS_c (pr_eI (os_aload_n (q := 0) dX14_kinds_35)) (pr_aS_c (pr_eI (os_get (kf := 12) dX14_kinds_36 cf_14 (by decide) wd_187)) (pr_aS_c (pr_eI (os_if_eq dX14_kinds_39 (by decide))) (pr_aS_c (pr_eI (os_aload_n (q := 0) dX14_kinds_49)) (pr_aS_c (pr_eI (os_cv dX14_kinds_50 (k := 25) rfl rfl cal_25 wd_210 wd_212 wd_211 rfl)) (pr_aS_c (pr_eI (os_istore_n (q := 1) dX14_kinds_53 (by decide))) (pr_aS_c (pr_eI (os_iload_n (q := 1) dX14_kinds_54)) (pr_aS_c (pr_eI (os_if_ge dX14_kinds_55 (by decide))) (pr_aS_c (pr_eI (os_aload_n (q := 0) dX14_kinds_60)) (pr_aS_c (pr_eI (os_get (kf := 5) dX14_kinds_61 cf_14 (by decide) wd_143)) (pr_aS_c (pr_eI (os_astore_n (q := 2) dX14_kinds_64 (by decide))) (pr_aS_c (pr_eI (os_aload_n (q := 0) dX14_kinds_65)) (pr_aS_c (pr_eI (os_aload_n (q := 0) dX14_kinds_66)) (pr_aS_c (pr_eI (os_get (kf := 6) dX14_kinds_67 cf_14 (by decide) wd_144)) (pr_aS_c (pr_eI (os_putr (kf := 5) dX14_kinds_70 cf_14 (by decide) wd_143 rfl (Or.inl ⟨_, rfl⟩))) (pr_aS_c (pr_eI (os_aload_n (q := 0) dX14_kinds_73)) (pr_aS_c (pr_eI (os_aload_n (q := 2) dX14_kinds_74)) (pr_aS_c (pr_eI (os_putr (kf := 6) dX14_kinds_75 cf_14 (by decide) wd_144 rfl (Or.inl ⟨_, rfl⟩))) (pr_aS_c (pr_eI (os_aload_n (q := 0) dX14_kinds_78)) (pr_aS_c (pr_eI (os_get (kf := 1) dX14_kinds_79 cf_14 (by decide) wd_136)) (pr_aS_c (pr_eI (os_astore_n (q := 3) dX14_kinds_82 (by decide))) (pr_aS_c (pr_eI (os_aload_n (q := 0) dX14_kinds_83)) (pr_aS_c (pr_eI (os_aload_n (q := 0) dX14_kinds_84)) (pr_aS_c (pr_eI (os_get (kf := 2) dX14_kinds_85 cf_14 (by decide) wd_137)) (pr_aS_c (pr_eI (os_putr (kf := 1) dX14_kinds_88 cf_14 (by decide) wd_136 rfl (Or.inl ⟨_, rfl⟩))) (pr_aS_c (pr_eI (os_aload_n (q := 0) dX14_kinds_91)) (pr_aS_c (pr_eI (os_aload_n (q := 3) dX14_kinds_92)) (pr_aS_c (pr_eI (os_putr (kf := 2) dX14_kinds_93 cf_14 (by decide) wd_137 rfl (Or.inl ⟨_, rfl⟩))) (pr_aS_c (pr_eI (os_aload_n (q := 0) dX14_kinds_96)) (pr_aS_c (pr_eI (os_cv dX14_kinds_97 (k := 29) rfl rfl cal_29 wd_213 wd_215 wd_214 rfl)) (pr_aS_c (pr_eI (os_aload_n (q := 0) dX14_kinds_100)) (pr_aS_c (pr_eI (os_get (kf := 5) dX14_kinds_101 cf_14 (by decide) wd_143)) (pr_aS_c (pr_eI (os_get (kf := 0) dX14_kinds_104 cf_12 (by decide) wd_177)) (pr_aS_c (pr_eR (rs_i dX14_kinds_107 rfl)) trivial))))))))))))))))))))))))))))))))))))))))))))))))))
theorem dX14_fault__0 : decode cX14_fault_ 0 = .ok (.aload_n 0, 1) := by decide +kernel
theorem dX14_fault__1 : decode cX14_fault_ 1 = .ok (.iconst 0, 1) := by decide +kernel
theorem dX14_fault__2 : decode cX14_fault_ 2 = .ok (.putfield 1, 3) := by decide +kernel
theorem dX14_fault__5 : decode cX14_fault_ 5 = .ok (.aload_n 0, 1) := by decide +kernel
theorem dX14_fault__6 : decode cX14_fault_ 6 = .ok (.getfield 231, 3) := by decide +kernel
theorem dX14_fault__9 : decode cX14_fault_ 9 = .ok (.ireturn, 1) := by decide +kernel
/-- InferResolveModel.fault()I -/
noncomputable def qc_28 : pr_Co := [(0, (.inl (po_aload 0 1))), (1, (.inl (po_push 0 2))), (2, (.inl (po_puti 14 0 5))), (5, (.inl (po_aload 0 6))), (6, (.inl (po_get 14 18 9))), (9, (.inr (re_i)))]
set_option maxRecDepth 100000 in
set_option maxHeartbeats 4000000 in
theorem qs_28 : pr_aS pr_ms m_28 [(0, (.inl (po_aload 0 1))), (1, (.inl (po_push 0 2))), (2, (.inl (po_puti 14 0 5))), (5, (.inl (po_aload 0 6))), (6, (.inl (po_get 14 18 9))), (9, (.inr (re_i)))] := pr_aS_c (pr_eI (os_aload_n (q := 0) dX14_fault__0)) (pr_aS_c (pr_eI (os_iconst dX14_fault__1 (by decide +kernel))) (pr_aS_c (pr_eI (os_puti (kf := 0) dX14_fault__2 cf_14 (by decide) wd_206 rfl rfl)) (pr_aS_c (pr_eI (os_aload_n (q := 0) dX14_fault__5)) (pr_aS_c (pr_eI (os_get (kf := 18) dX14_fault__6 cf_14 (by decide) wd_205)) (pr_aS_c (pr_eR (rs_i dX14_fault__9 rfl)) trivial)))))
theorem dX14_clear_0 : decode cX14_clear 0 = .ok (.aload_n 0, 1) := by decide +kernel
theorem dX14_clear_1 : decode cX14_clear 1 = .ok (.iconst 0, 1) := by decide +kernel
theorem dX14_clear_2 : decode cX14_clear 2 = .ok (.putfield 278, 3) := by decide +kernel
theorem dX14_clear_5 : decode cX14_clear 5 = .ok (.aload_n 0, 1) := by decide +kernel
theorem dX14_clear_6 : decode cX14_clear 6 = .ok (.getfield 64, 3) := by decide +kernel
theorem dX14_clear_9 : decode cX14_clear 9 = .ok (.iconst 0, 1) := by decide +kernel
theorem dX14_clear_10 : decode cX14_clear 10 = .ok (.putfield 281, 3) := by decide +kernel
theorem dX14_clear_13 : decode cX14_clear 13 = .ok (.aload_n 0, 1) := by decide +kernel
theorem dX14_clear_14 : decode cX14_clear 14 = .ok (.iconst 0, 1) := by decide +kernel
theorem dX14_clear_15 : decode cX14_clear 15 = .ok (.putfield 282, 3) := by decide +kernel
theorem dX14_clear_18 : decode cX14_clear 18 = .ok (.aload_n 0, 1) := by decide +kernel
theorem dX14_clear_19 : decode cX14_clear 19 = .ok (.iconst 0, 1) := by decide +kernel
theorem dX14_clear_20 : decode cX14_clear 20 = .ok (.putfield 285, 3) := by decide +kernel
theorem dX14_clear_23 : decode cX14_clear 23 = .ok (.return_, 1) := by decide +kernel
/-- InferResolveModel.clear()V -/
noncomputable def qc_29 : pr_Co := [(0, (.inl (po_aload 0 1))), (1, (.inl (po_push 0 2))), (2, (.inl (po_puti 14 8 5))), (5, (.inl (po_aload 0 6))), (6, (.inl (po_get 14 20 9))), (9, (.inl (po_push 0 10))), (10, (.inl (po_puti 11 0 13))), (13, (.inl (po_aload 0 14))), (14, (.inl (po_push 0 15))), (15, (.inl (po_puti 14 22 18))), (18, (.inl (po_aload 0 19))), (19, (.inl (po_push 0 20))), (20, (.inl (po_puti 14 23 23))), (23, (.inr (re_v)))]
set_option maxRecDepth 100000 in
set_option maxHeartbeats 4000000 in
theorem qs_29 : pr_aS pr_ms m_29 [(0, (.inl (po_aload 0 1))), (1, (.inl (po_push 0 2))), (2, (.inl (po_puti 14 8 5))), (5, (.inl (po_aload 0 6))), (6, (.inl (po_get 14 20 9))), (9, (.inl (po_push 0 10))), (10, (.inl (po_puti 11 0 13))), (13, (.inl (po_aload 0 14))), (14, (.inl (po_push 0 15))), (15, (.inl (po_puti 14 22 18))), (18, (.inl (po_aload 0 19))), (19, (.inl (po_push 0 20))), (20, (.inl (po_puti 14 23 23))), (23, (.inr (re_v)))] := pr_aS_c (pr_eI (os_aload_n (q := 0) dX14_clear_0)) (pr_aS_c (pr_eI (os_iconst dX14_clear_1 (by decide +kernel))) (pr_aS_c (pr_eI (os_puti (kf := 8) dX14_clear_2 cf_14 (by decide) wd_216 rfl rfl)) (pr_aS_c (pr_eI (os_aload_n (q := 0) dX14_clear_5)) (pr_aS_c (pr_eI (os_get (kf := 20) dX14_clear_6 cf_14 (by decide) wd_154)) (pr_aS_c (pr_eI (os_iconst dX14_clear_9 (by decide +kernel))) (pr_aS_c (pr_eI (os_puti (kf := 0) dX14_clear_10 cf_11 (by decide) wd_217 rfl rfl)) (pr_aS_c (pr_eI (os_aload_n (q := 0) dX14_clear_13)) (pr_aS_c (pr_eI (os_iconst dX14_clear_14 (by decide +kernel))) (pr_aS_c (pr_eI (os_puti (kf := 22) dX14_clear_15 cf_14 (by decide) wd_218 rfl rfl)) (pr_aS_c (pr_eI (os_aload_n (q := 0) dX14_clear_18)) (pr_aS_c (pr_eI (os_iconst dX14_clear_19 (by decide +kernel))) (pr_aS_c (pr_eI (os_puti (kf := 23) dX14_clear_20 cf_14 (by decide) wd_219 rfl rfl)) (pr_aS_c (pr_eR (rs_v dX14_clear_23 rfl)) trivial)))))))))))))
theorem dX14_moved_0 : decode cX14_moved 0 = .ok (.aload_n 0, 1) := by decide +kernel
theorem dX14_moved_1 : decode cX14_moved 1 = .ok (.getfield 20, 3) := by decide +kernel
theorem dX14_moved_4 : decode cX14_moved 4 = .ok (.getfield 362, 3) := by decide +kernel
theorem dX14_moved_7 : decode cX14_moved 7 = .ok (.iload_n 1, 1) := by decide +kernel
theorem dX14_moved_8 : decode cX14_moved 8 = .ok (.iaload, 1) := by decide +kernel
theorem dX14_moved_9 : decode cX14_moved 9 = .ok (.iconst (-1), 1) := by decide +kernel
theorem dX14_moved_10 : decode cX14_moved 10 = .ok (.if_icmp .eq 13, 3) := by decide +kernel
theorem dX14_moved_13 : decode cX14_moved 13 = .ok (.aload_n 0, 1) := by decide +kernel
theorem dX14_moved_14 : decode cX14_moved 14 = .ok (.getfield 20, 3) := by decide +kernel
theorem dX14_moved_17 : decode cX14_moved 17 = .ok (.getfield 362, 3) := by decide +kernel
theorem dX14_moved_20 : decode cX14_moved 20 = .ok (.iload_n 1, 1) := by decide +kernel
theorem dX14_moved_21 : decode cX14_moved 21 = .ok (.iaload, 1) := by decide +kernel
theorem dX14_moved_22 : decode cX14_moved 22 = .ok (.ireturn, 1) := by decide +kernel
theorem dX14_moved_23 : decode cX14_moved 23 = .ok (.aload_n 0, 1) := by decide +kernel
theorem dX14_moved_24 : decode cX14_moved 24 = .ok (.getfield 11, 3) := by decide +kernel
theorem dX14_moved_27 : decode cX14_moved 27 = .ok (.istore_n 2, 1) := by decide +kernel
theorem dX14_moved_28 : decode cX14_moved 28 = .ok (.iconst 0, 1) := by decide +kernel
theorem dX14_moved_29 : decode cX14_moved 29 = .ok (.istore_n 3, 1) := by decide +kernel
theorem dX14_moved_30 : decode cX14_moved 30 = .ok (.iload_n 3, 1) := by decide +kernel
theorem dX14_moved_31 : decode cX14_moved 31 = .ok (.aload_n 0, 1) := by decide +kernel
theorem dX14_moved_32 : decode cX14_moved 32 = .ok (.getfield 20, 3) := by decide +kernel
theorem dX14_moved_35 : decode cX14_moved 35 = .ok (.getfield 145, 3) := by decide +kernel
theorem dX14_moved_38 : decode cX14_moved 38 = .ok (.iload_n 1, 1) := by decide +kernel
theorem dX14_moved_39 : decode cX14_moved 39 = .ok (.iaload, 1) := by decide +kernel
theorem dX14_moved_40 : decode cX14_moved 40 = .ok (.if_icmp .ge 26, 3) := by decide +kernel
theorem dX14_moved_66 : decode cX14_moved 66 = .ok (.aload_n 0, 1) := by decide +kernel
theorem dX14_moved_67 : decode cX14_moved 67 = .ok (.getfield 20, 3) := by decide +kernel
theorem dX14_moved_70 : decode cX14_moved 70 = .ok (.getfield 362, 3) := by decide +kernel
theorem dX14_moved_73 : decode cX14_moved 73 = .ok (.iload_n 1, 1) := by decide +kernel
theorem dX14_moved_74 : decode cX14_moved 74 = .ok (.aload_n 0, 1) := by decide +kernel
theorem dX14_moved_75 : decode cX14_moved 75 = .ok (.aload_n 0, 1) := by decide +kernel
theorem dX14_moved_76 : decode cX14_moved 76 = .ok (.getfield 37, 3) := by decide +kernel
theorem dX14_moved_79 : decode cX14_moved 79 = .ok (.aload_n 0, 1) := by decide +kernel
theorem dX14_moved_80 : decode cX14_moved 80 = .ok (.getfield 20, 3) := by decide +kernel
theorem dX14_moved_83 : decode cX14_moved 83 = .ok (.getfield 24, 3) := by decide +kernel
theorem dX14_moved_86 : decode cX14_moved 86 = .ok (.iload_n 1, 1) := by decide +kernel
theorem dX14_moved_87 : decode cX14_moved 87 = .ok (.iaload, 1) := by decide +kernel
theorem dX14_moved_88 : decode cX14_moved 88 = .ok (.aload_n 0, 1) := by decide +kernel
theorem dX14_moved_89 : decode cX14_moved 89 = .ok (.getfield 20, 3) := by decide +kernel
theorem dX14_moved_92 : decode cX14_moved 92 = .ok (.getfield 138, 3) := by decide +kernel
theorem dX14_moved_95 : decode cX14_moved 95 = .ok (.iload_n 1, 1) := by decide +kernel
theorem dX14_moved_96 : decode cX14_moved 96 = .ok (.iaload, 1) := by decide +kernel
theorem dX14_moved_97 : decode cX14_moved 97 = .ok (.iload_n 2, 1) := by decide +kernel
theorem dX14_moved_98 : decode cX14_moved 98 = .ok (.invokevirtual 159, 3) := by decide +kernel
theorem dX14_moved_101 : decode cX14_moved 101 = .ok (.iastore, 1) := by decide +kernel
theorem dX14_moved_102 : decode cX14_moved 102 = .ok (.aload_n 0, 1) := by decide +kernel
theorem dX14_moved_103 : decode cX14_moved 103 = .ok (.getfield 20, 3) := by decide +kernel
theorem dX14_moved_106 : decode cX14_moved 106 = .ok (.getfield 362, 3) := by decide +kernel
theorem dX14_moved_109 : decode cX14_moved 109 = .ok (.iload_n 1, 1) := by decide +kernel
theorem dX14_moved_110 : decode cX14_moved 110 = .ok (.iaload, 1) := by decide +kernel
theorem dX14_moved_111 : decode cX14_moved 111 = .ok (.ireturn, 1) := by decide +kernel
/-- InferResolveModel.moved(I)I -/
noncomputable def qc_30 : pr_Co := [(0, (.inl (po_aload 0 1))), (1, (.inl (po_get 14 1 4))), (4, (.inl (po_get 13 11 7))), (7, (.inl (po_iload 1 8))), (8, (.inl (po_iald 9))), (9, (.inl (po_push (-1) 10))), (10, (.inl (po_if2 (fun x y => decide (x = y)) 23 13))), (13, (.inl (po_aload 0 14))), (14, (.inl (po_get 14 1 17))), (17, (.inl (po_get 13 11 20))), (20, (.inl (po_iload 1 21))), (21, (.inl (po_iald 22))), (22, (.inr (re_i))), (23, (.inl (po_aload 0 24))), (24, (.inl (po_get 14 4 27))), (27, (.inl (po_istore 2 28))), (28, (.inl (po_push 0 29))), (29, (.inl (po_istore 3 30))), (30, (.inl (po_iload 3 31))), (31, (.inl (po_aload 0 32))), (32, (.inl (po_get 14 1 35))), (35, (.inl (po_get 13 5 38))), (38, (.inl (po_iload 1 39))), (39, (.inl (po_iald 40))), (40, (.inl (po_if2 (fun x y => decide (y ≤ x)) 66 43))), (66, (.inl (po_aload 0 67))), (67, (.inl (po_get 14 1 70))), (70, (.inl (po_get 13 11 73))), (73, (.inl (po_iload 1 74))), (74, (.inl (po_aload 0 75))), (75, (.inl (po_aload 0 76))), (76, (.inl (po_get 14 2 79))), (79, (.inl (po_aload 0 80))), (80, (.inl (po_get 14 1 83))), (83, (.inl (po_get 13 2 86))), (86, (.inl (po_iload 1 87))), (87, (.inl (po_iald 88))), (88, (.inl (po_aload 0 89))), (89, (.inl (po_get 14 1 92))), (92, (.inl (po_get 13 3 95))), (95, (.inl (po_iload 1 96))), (96, (.inl (po_iald 97))), (97, (.inl (po_iload 2 98))), (98, (.inl (po_cv 14 4 14 6 101))), (101, (.inl (po_iast 102))), (102, (.inl (po_aload 0 103))), (103, (.inl (po_get 14 1 106))), (106, (.inl (po_get 13 11 109))), (109, (.inl (po_iload 1 110))), (110, (.inl (po_iald 111))), (111, (.inr (re_i)))]
set_option maxRecDepth 100000 in
set_option maxHeartbeats 4000000 in
theorem qs_30 : pr_aS pr_ms m_30 [(0, (.inl (po_aload 0 1))), (1, (.inl (po_get 14 1 4))), (4, (.inl (po_get 13 11 7))), (7, (.inl (po_iload 1 8))), (8, (.inl (po_iald 9))), (9, (.inl (po_push (-1) 10))), (10, (.inl (po_if2 (fun x y => decide (x = y)) 23 13))), (13, (.inl (po_aload 0 14))), (14, (.inl (po_get 14 1 17))), (17, (.inl (po_get 13 11 20))), (20, (.inl (po_iload 1 21))), (21, (.inl (po_iald 22))), (22, (.inr (re_i))), (23, (.inl (po_aload 0 24))), (24, (.inl (po_get 14 4 27))), (27, (.inl (po_istore 2 28))), (28, (.inl (po_push 0 29))), (29, (.inl (po_istore 3 30))), (30, (.inl (po_iload 3 31))), (31, (.inl (po_aload 0 32))), (32, (.inl (po_get 14 1 35))), (35, (.inl (po_get 13 5 38))), (38, (.inl (po_iload 1 39))), (39, (.inl (po_iald 40))), (40, (.inl (po_if2 (fun x y => decide (y ≤ x)) 66 43))), (66, (.inl (po_aload 0 67))), (67, (.inl (po_get 14 1 70))), (70, (.inl (po_get 13 11 73))), (73, (.inl (po_iload 1 74))), (74, (.inl (po_aload 0 75))), (75, (.inl (po_aload 0 76))), (76, (.inl (po_get 14 2 79))), (79, (.inl (po_aload 0 80))), (80, (.inl (po_get 14 1 83))), (83, (.inl (po_get 13 2 86))), (86, (.inl (po_iload 1 87))), (87, (.inl (po_iald 88))), (88, (.inl (po_aload 0 89))), (89, (.inl (po_get 14 1 92))), (92, (.inl (po_get 13 3 95))), (95, (.inl (po_iload 1 96))), (96, (.inl (po_iald 97))), (97, (.inl (po_iload 2 98))), (98, (.inl (po_cv 14 4 14 6 101))), (101, (.inl (po_iast 102))), (102, (.inl (po_aload 0 103))), (103, (.inl (po_get 14 1 106))), (106, (.inl (po_get 13 11 109))), (109, (.inl (po_iload 1 110))), (110, (.inl (po_iald 111))), (111, (.inr (re_i)))] := pr_aS_c (pr_eI (os_aload_n (q := 0) dX14_moved_0)) (pr_aS_c (pr_eI (os_get (kf := 1) dX14_moved_1 cf_14 (by decide) wd_136)) (pr_aS_c (pr_eI (os_get (kf := 11) dX14_moved_4 cf_13 (by decide) wd_220)) (pr_aS_c (pr_eI (os_iload_n (q := 1) dX14_moved_7)) (pr_aS_c (pr_eI (os_iald dX14_moved_8)) (pr_aS_c (pr_eI (os_iconst dX14_moved_9 (by decide +kernel))) (pr_aS_c (pr_eI (os_icmp_eq dX14_moved_10 (by decide))) (pr_aS_c (pr_eI (os_aload_n (q := 0) dX14_moved_13)) (pr_aS_c (pr_eI (os_get (kf := 1) dX14_moved_14 cf_14 (by decide) wd_136)) (pr_aS_c (pr_eI (os_get (kf := 11) dX14_moved_17 cf_13 (by decide) wd_220)) (pr_aS_c (pr_eI (os_iload_n (q := 1) dX14_moved_20)) (pr_aS_c (pr_eI (os_iald dX14_moved_21)) (pr_aS_c (pr_eR (rs_i dX14_moved_22 rfl)) (pr_aS_c (pr_eI (os_aload_n (q := 0) dX14_moved_23)) (pr_aS_c (pr_eI (os_get (kf := 4) dX14_moved_24 cf_14 (by decide) wd_127)) (pr_aS_c (pr_eI (os_istore_n (q := 2) dX14_moved_27 (by decide))) (pr_aS_c (pr_eI (os_iconst dX14_moved_28 (by decide +kernel))) (pr_aS_c (pr_eI (os_istore_n (q := 3) dX14_moved_29 (by decide))) (pr_aS_c (pr_eI (os_iload_n (q := 3) dX14_moved_30)) (pr_aS_c (pr_eI (os_aload_n (q := 0) dX14_moved_31)) (pr_aS_c (pr_eI (os_get (kf := 1) dX14_moved_32 cf_14 (by decide) wd_136)) (pr_aS_c (pr_eI (os_get (kf := 5) dX14_moved_35 cf_13 (by decide) wd_221)) (pr_aS_c (pr_eI (os_iload_n (q := 1) dX14_moved_38)) (pr_aS_c (pr_eI (os_iald dX14_moved_39)) (pr_aS_c (pr_eI (os_icmp_ge dX14_moved_40 (by decide))) (pr_aS_c (pr_eI (os_aload_n (q := 0) dX14_moved_66)) (pr_aS_c (pr_eI (os_get (kf := 1) dX14_moved_67 cf_14 (by decide) wd_136)) (pr_aS_c (pr_eI (os_get (kf := 11) dX14_moved_70 cf_13 (by decide) wd_220)) (pr_aS_c (pr_eI (os_iload_n (q := 1) dX14_moved_73)) (pr_aS_c (pr_eI (os_aload_n (q := 0) dX14_moved_74)) (pr_aS_c (pr_eI (os_aload_n (q := 0) dX14_moved_75)) (pr_aS_c (pr_eI (os_get (kf := 2) dX14_moved_76 cf_14 (by decide) wd_137)) (pr_aS_c (pr_eI (os_aload_n (q := 0) dX14_moved_79)) (pr_aS_c (pr_eI (os_get (kf := 1) dX14_moved_80 cf_14 (by decide) wd_136)) (pr_aS_c (pr_eI (os_get (kf := 2) dX14_moved_83 cf_13 (by decide) wd_222)) (pr_aS_c (pr_eI (os_iload_n (q := 1) dX14_moved_86)) (pr_aS_c (pr_eI (os_iald dX14_moved_87)) (pr_aS_c (pr_eI (os_aload_n (q := 0) dX14_moved_88)) (pr_aS_c (pr_eI (os_get (kf := 1) dX14_moved_89 cf_14 (by decide) wd_136)) (pr_aS_c (pr_eI (os_get (kf := 3) dX14_moved_92 cf_13 (by decide) wd_223)) (pr_aS_c (pr_eI (os_iload_n (q := 1) dX14_moved_95)) (pr_aS_c (pr_eI (os_iald dX14_moved_96)) (pr_aS_c (pr_eI (os_iload_n (q := 2) dX14_moved_97)) (pr_aS_c (pr_eI (os_cv dX14_moved_98 (k := 14) rfl rfl cal_14 wd_224 wd_226 wd_225 rfl)) (pr_aS_c (pr_eI (os_iast dX14_moved_101)) (pr_aS_c (pr_eI (os_aload_n (q := 0) dX14_moved_102)) (pr_aS_c (pr_eI (os_get (kf := 1) dX14_moved_103 cf_14 (by decide) wd_136)) (pr_aS_c (pr_eI (os_get (kf := 11) dX14_moved_106 cf_13 (by decide) wd_220)) (pr_aS_c (pr_eI (os_iload_n (q := 1) dX14_moved_109)) (pr_aS_c (pr_eI (os_iald dX14_moved_110)) (pr_aS_c (pr_eR (rs_i dX14_moved_111 rfl)) trivial))))))))))))))))))))))))))))))))))))))))))))))))))
theorem dX14_sweep_0 : decode cX14_sweep 0 = .ok (.aload_n 0, 1) := by decide +kernel
theorem dX14_sweep_1 : decode cX14_sweep 1 = .ok (.getfield 37, 3) := by decide +kernel
theorem dX14_sweep_4 : decode cX14_sweep 4 = .ok (.invokevirtual 98, 3) := by decide +kernel
theorem dX14_sweep_7 : decode cX14_sweep 7 = .ok (.iconst 0, 1) := by decide +kernel
theorem dX14_sweep_8 : decode cX14_sweep 8 = .ok (.istore_n 1, 1) := by decide +kernel
theorem dX14_sweep_9 : decode cX14_sweep 9 = .ok (.iload_n 1, 1) := by decide +kernel
theorem dX14_sweep_10 : decode cX14_sweep 10 = .ok (.aload_n 0, 1) := by decide +kernel
theorem dX14_sweep_11 : decode cX14_sweep 11 = .ok (.getfield 20, 3) := by decide +kernel
theorem dX14_sweep_14 : decode cX14_sweep 14 = .ok (.getfield 367, 3) := by decide +kernel
theorem dX14_sweep_17 : decode cX14_sweep 17 = .ok (.if_icmp .ge 29, 3) := by decide +kernel
theorem dX14_sweep_20 : decode cX14_sweep 20 = .ok (.aload_n 0, 1) := by decide +kernel
theorem dX14_sweep_21 : decode cX14_sweep 21 = .ok (.getfield 20, 3) := by decide +kernel
theorem dX14_sweep_24 : decode cX14_sweep 24 = .ok (.getfield 362, 3) := by decide +kernel
theorem dX14_sweep_27 : decode cX14_sweep 27 = .ok (.iload_n 1, 1) := by decide +kernel
theorem dX14_sweep_28 : decode cX14_sweep 28 = .ok (.iload_n 1, 1) := by decide +kernel
theorem dX14_sweep_29 : decode cX14_sweep 29 = .ok (.bipush 9, 2) := by decide +kernel
theorem dX14_sweep_31 : decode cX14_sweep 31 = .ok (.if_icmp .ge 7, 3) := by decide +kernel
theorem dX14_sweep_34 : decode cX14_sweep 34 = .ok (.iload_n 1, 1) := by decide +kernel
theorem dX14_sweep_35 : decode cX14_sweep 35 = .ok (.goto 4, 3) := by decide +kernel
theorem dX14_sweep_38 : decode cX14_sweep 38 = .ok (.iconst (-1), 1) := by decide +kernel
theorem dX14_sweep_39 : decode cX14_sweep 39 = .ok (.iastore, 1) := by decide +kernel
theorem dX14_sweep_40 : decode cX14_sweep 40 = .ok (.iinc 1 1, 3) := by decide +kernel
theorem dX14_sweep_43 : decode cX14_sweep 43 = .ok (.goto (-34), 3) := by decide +kernel
theorem dX14_sweep_46 : decode cX14_sweep 46 = .ok (.iconst 0, 1) := by decide +kernel
theorem dX14_sweep_47 : decode cX14_sweep 47 = .ok (.istore_n 1, 1) := by decide +kernel
theorem dX14_sweep_48 : decode cX14_sweep 48 = .ok (.iload_n 1, 1) := by decide +kernel
theorem dX14_sweep_49 : decode cX14_sweep 49 = .ok (.aload_n 0, 1) := by decide +kernel
theorem dX14_sweep_50 : decode cX14_sweep 50 = .ok (.getfield 43, 3) := by decide +kernel
theorem dX14_sweep_53 : decode cX14_sweep 53 = .ok (.getfield 115, 3) := by decide +kernel
theorem dX14_sweep_56 : decode cX14_sweep 56 = .ok (.if_icmp .ge 66, 3) := by decide +kernel
theorem dX14_sweep_59 : decode cX14_sweep 59 = .ok (.iconst 0, 1) := by decide +kernel
theorem dX14_sweep_60 : decode cX14_sweep 60 = .ok (.istore_n 2, 1) := by decide +kernel
theorem dX14_sweep_61 : decode cX14_sweep 61 = .ok (.iload_n 2, 1) := by decide +kernel
theorem dX14_sweep_62 : decode cX14_sweep 62 = .ok (.aload_n 0, 1) := by decide +kernel
theorem dX14_sweep_63 : decode cX14_sweep 63 = .ok (.getfield 43, 3) := by decide +kernel
theorem dX14_sweep_66 : decode cX14_sweep 66 = .ok (.getfield 115, 3) := by decide +kernel
theorem dX14_sweep_69 : decode cX14_sweep 69 = .ok (.if_icmp .ge 47, 3) := by decide +kernel
theorem dX14_sweep_72 : decode cX14_sweep 72 = .ok (.aload_n 0, 1) := by decide +kernel
theorem dX14_sweep_73 : decode cX14_sweep 73 = .ok (.getfield 43, 3) := by decide +kernel
theorem dX14_sweep_76 : decode cX14_sweep 76 = .ok (.iload_n 1, 1) := by decide +kernel
theorem dX14_sweep_77 : decode cX14_sweep 77 = .ok (.iload_n 2, 1) := by decide +kernel
theorem dX14_sweep_78 : decode cX14_sweep 78 = .ok (.invokevirtual 167, 3) := by decide +kernel
theorem dX14_sweep_81 : decode cX14_sweep 81 = .ok (.istore_n 3, 1) := by decide +kernel
theorem dX14_sweep_82 : decode cX14_sweep 82 = .ok (.aload_n 0, 1) := by decide +kernel
theorem dX14_sweep_83 : decode cX14_sweep 83 = .ok (.getfield 43, 3) := by decide +kernel
theorem dX14_sweep_86 : decode cX14_sweep 86 = .ok (.getfield 133, 3) := by decide +kernel
theorem dX14_sweep_89 : decode cX14_sweep 89 = .ok (.bipush 20, 2) := by decide +kernel
theorem dX14_sweep_91 : decode cX14_sweep 91 = .ok (.iload_n 1, 1) := by decide +kernel
theorem dX14_sweep_92 : decode cX14_sweep 92 = .ok (.imul, 1) := by decide +kernel
theorem dX14_sweep_93 : decode cX14_sweep 93 = .ok (.iload_n 2, 1) := by decide +kernel
theorem dX14_sweep_94 : decode cX14_sweep 94 = .ok (.iadd, 1) := by decide +kernel
theorem dX14_sweep_95 : decode cX14_sweep 95 = .ok (.iload_n 3, 1) := by decide +kernel
theorem dX14_sweep_96 : decode cX14_sweep 96 = .ok (.iconst (-1), 1) := by decide +kernel
theorem dX14_sweep_97 : decode cX14_sweep 97 = .ok (.if_icmp .ne 7, 3) := by decide +kernel
theorem dX14_sweep_100 : decode cX14_sweep 100 = .ok (.iconst (-1), 1) := by decide +kernel
theorem dX14_sweep_101 : decode cX14_sweep 101 = .ok (.goto 8, 3) := by decide +kernel
theorem dX14_sweep_104 : decode cX14_sweep 104 = .ok (.aload_n 0, 1) := by decide +kernel
theorem dX14_sweep_105 : decode cX14_sweep 105 = .ok (.iload_n 3, 1) := by decide +kernel
theorem dX14_sweep_106 : decode cX14_sweep 106 = .ok (.invokevirtual 365, 3) := by decide +kernel
theorem dX14_sweep_109 : decode cX14_sweep 109 = .ok (.iastore, 1) := by decide +kernel
theorem dX14_sweep_110 : decode cX14_sweep 110 = .ok (.iinc 2 1, 3) := by decide +kernel
theorem dX14_sweep_113 : decode cX14_sweep 113 = .ok (.goto (-52), 3) := by decide +kernel
theorem dX14_sweep_116 : decode cX14_sweep 116 = .ok (.iinc 1 1, 3) := by decide +kernel
theorem dX14_sweep_119 : decode cX14_sweep 119 = .ok (.goto (-71), 3) := by decide +kernel
theorem dX14_sweep_122 : decode cX14_sweep 122 = .ok (.iconst 0, 1) := by decide +kernel
theorem dX14_sweep_123 : decode cX14_sweep 123 = .ok (.istore_n 1, 1) := by decide +kernel
theorem dX14_sweep_124 : decode cX14_sweep 124 = .ok (.iload_n 1, 1) := by decide +kernel
theorem dX14_sweep_125 : decode cX14_sweep 125 = .ok (.aload_n 0, 1) := by decide +kernel
theorem dX14_sweep_126 : decode cX14_sweep 126 = .ok (.getfield 64, 3) := by decide +kernel
theorem dX14_sweep_129 : decode cX14_sweep 129 = .ok (.getfield 281, 3) := by decide +kernel
theorem dX14_sweep_132 : decode cX14_sweep 132 = .ok (.if_icmp .ge 53, 3) := by decide +kernel
theorem dX14_sweep_185 : decode cX14_sweep 185 = .ok (.aload_n 0, 1) := by decide +kernel
theorem dX14_sweep_186 : decode cX14_sweep 186 = .ok (.getfield 20, 3) := by decide +kernel
theorem dX14_sweep_189 : decode cX14_sweep 189 = .ok (.astore_n 1, 1) := by decide +kernel
theorem dX14_sweep_190 : decode cX14_sweep 190 = .ok (.aload_n 0, 1) := by decide +kernel
theorem dX14_sweep_191 : decode cX14_sweep 191 = .ok (.aload_n 0, 1) := by decide +kernel
theorem dX14_sweep_192 : decode cX14_sweep 192 = .ok (.getfield 37, 3) := by decide +kernel
theorem dX14_sweep_195 : decode cX14_sweep 195 = .ok (.putfield 20, 3) := by decide +kernel
theorem dX14_sweep_198 : decode cX14_sweep 198 = .ok (.aload_n 0, 1) := by decide +kernel
theorem dX14_sweep_199 : decode cX14_sweep 199 = .ok (.aload_n 1, 1) := by decide +kernel
theorem dX14_sweep_200 : decode cX14_sweep 200 = .ok (.putfield 37, 3) := by decide +kernel
theorem dX14_sweep_203 : decode cX14_sweep 203 = .ok (.return_, 1) := by decide +kernel
/-- InferResolveModel.sweep()V -/
noncomputable def qc_31 : pr_Co := [(0, (.inl (po_aload 0 1))), (1, (.inl (po_get 14 2 4))), (4, (.inl (po_cv 95 0 13 3 7))), (7, (.inl (po_push 0 8))), (8, (.inl (po_istore 1 9))), (9, (.inl (po_iload 1 10))), (10, (.inl (po_aload 0 11))), (11, (.inl (po_get 14 1 14))), (14, (.inl (po_get 13 0 17))), (17, (.inl (po_if2 (fun x y => decide (y ≤ x)) 46 20))), (20, (.inl (po_aload 0 21))), (21, (.inl (po_get 14 1 24))), (24, (.inl (po_get 13 11 27))), (27, (.inl (po_iload 1 28))), (28, (.inl (po_iload 1 29))), (29, (.inl (po_push 9 31))), (31, (.inl (po_if2 (fun x y => decide (y ≤ x)) 38 34))), (34, (.inl (po_iload 1 35))), (35, (.inl (po_goto 39))), (38, (.inl (po_push (-1) 39))), (39, (.inl (po_iast 40))), (40, (.inl (po_iinc 1 1 43))), (43, (.inl (po_goto 9))), (46, (.inl (po_push 0 47))), (47, (.inl (po_istore 1 48))), (48, (.inl (po_iload 1 49))), (49, (.inl (po_aload 0 50))), (50, (.inl (po_get 14 5 53))), (53, (.inl (po_get 12 0 56))), (56, (.inl (po_if2 (fun x y => decide (y ≤ x)) 122 59))), (59, (.inl (po_push 0 60))), (60, (.inl (po_istore 2 61))), (61, (.inl (po_iload 2 62))), (62, (.inl (po_aload 0 63))), (63, (.inl (po_get 14 5 66))), (66, (.inl (po_get 12 0 69))), (69, (.inl (po_if2 (fun x y => decide (y ≤ x)) 116 72))), (72, (.inl (po_aload 0 73))), (73, (.inl (po_get 14 5 76))), (76, (.inl (po_iload 1 77))), (77, (.inl (po_iload 2 78))), (78, (.inl (po_cv 92 2 12 3 81))), (81, (.inl (po_istore 3 82))), (82, (.inl (po_aload 0 83))), (83, (.inl (po_get 14 5 86))), (86, (.inl (po_get 12 4 89))), (89, (.inl (po_push 20 91))), (91, (.inl (po_iload 1 92))), (92, (.inl (po_i2 (fun x y => x * y) 93))), (93, (.inl (po_iload 2 94))), (94, (.inl (po_i2 (fun x y => x + y) 95))), (95, (.inl (po_iload 3 96))), (96, (.inl (po_push (-1) 97))), (97, (.inl (po_if2 (fun x y => !decide (x = y)) 104 100))), (100, (.inl (po_push (-1) 101))), (101, (.inl (po_goto 109))), (104, (.inl (po_aload 0 105))), (105, (.inl (po_iload 3 106))), (106, (.inl (po_cv 30 1 14 4 109))), (109, (.inl (po_iast 110))), (110, (.inl (po_iinc 2 1 113))), (113, (.inl (po_goto 61))), (116, (.inl (po_iinc 1 1 119))), (119, (.inl (po_goto 48))), (122, (.inl (po_push 0 123))), (123, (.inl (po_istore 1 124))), (124, (.inl (po_iload 1 125))), (125, (.inl (po_aload 0 126))), (126, (.inl (po_get 14 20 129))), (129, (.inl (po_get 11 0 132))), (132, (.inl (po_if2 (fun x y => decide (y ≤ x)) 185 135))), (185, (.inl (po_aload 0 186))), (186, (.inl (po_get 14 1 189))), (189, (.inl (po_astore 1 190))), (190, (.inl (po_aload 0 191))), (191, (.inl (po_aload 0 192))), (192, (.inl (po_get 14 2 195))), (195, (.inl (po_putr 14 1 198))), (198, (.inl (po_aload 0 199))), (199, (.inl (po_aload 1 200))), (200, (.inl (po_putr 14 2 203))), (203, (.inr (re_v)))]
set_option maxRecDepth 100000 in
set_option maxHeartbeats 4000000 in
theorem qs_31 : pr_aS pr_ms m_31 [(0, (.inl (po_aload 0 1))), (1, (.inl (po_get 14 2 4))), (4, (.inl (po_cv 95 0 13 3 7))), (7, (.inl (po_push 0 8))), (8, (.inl (po_istore 1 9))), (9, (.inl (po_iload 1 10))), (10, (.inl (po_aload 0 11))), (11, (.inl (po_get 14 1 14))), (14, (.inl (po_get 13 0 17))), (17, (.inl (po_if2 (fun x y => decide (y ≤ x)) 46 20))), (20, (.inl (po_aload 0 21))), (21, (.inl (po_get 14 1 24))), (24, (.inl (po_get 13 11 27))), (27, (.inl (po_iload 1 28))), (28, (.inl (po_iload 1 29))), (29, (.inl (po_push 9 31))), (31, (.inl (po_if2 (fun x y => decide (y ≤ x)) 38 34))), (34, (.inl (po_iload 1 35))), (35, (.inl (po_goto 39))), (38, (.inl (po_push (-1) 39))), (39, (.inl (po_iast 40))), (40, (.inl (po_iinc 1 1 43))), (43, (.inl (po_goto 9))), (46, (.inl (po_push 0 47))), (47, (.inl (po_istore 1 48))), (48, (.inl (po_iload 1 49))), (49, (.inl (po_aload 0 50))), (50, (.inl (po_get 14 5 53))), (53, (.inl (po_get 12 0 56))), (56, (.inl (po_if2 (fun x y => decide (y ≤ x)) 122 59))), (59, (.inl (po_push 0 60))), (60, (.inl (po_istore 2 61))), (61, (.inl (po_iload 2 62))), (62, (.inl (po_aload 0 63))), (63, (.inl (po_get 14 5 66))), (66, (.inl (po_get 12 0 69))), (69, (.inl (po_if2 (fun x y => decide (y ≤ x)) 116 72))), (72, (.inl (po_aload 0 73))), (73, (.inl (po_get 14 5 76))), (76, (.inl (po_iload 1 77))), (77, (.inl (po_iload 2 78))), (78, (.inl (po_cv 92 2 12 3 81))), (81, (.inl (po_istore 3 82))), (82, (.inl (po_aload 0 83))), (83, (.inl (po_get 14 5 86))), (86, (.inl (po_get 12 4 89))), (89, (.inl (po_push 20 91))), (91, (.inl (po_iload 1 92))), (92, (.inl (po_i2 (fun x y => x * y) 93))), (93, (.inl (po_iload 2 94))), (94, (.inl (po_i2 (fun x y => x + y) 95))), (95, (.inl (po_iload 3 96))), (96, (.inl (po_push (-1) 97))), (97, (.inl (po_if2 (fun x y => !decide (x = y)) 104 100))), (100, (.inl (po_push (-1) 101))), (101, (.inl (po_goto 109))), (104, (.inl (po_aload 0 105))), (105, (.inl (po_iload 3 106))), (106, (.inl (po_cv 30 1 14 4 109))), (109, (.inl (po_iast 110))), (110, (.inl (po_iinc 2 1 113))), (113, (.inl (po_goto 61))), (116, (.inl (po_iinc 1 1 119))), (119, (.inl (po_goto 48))), (122, (.inl (po_push 0 123))), (123, (.inl (po_istore 1 124))), (124, (.inl (po_iload 1 125))), (125, (.inl (po_aload 0 126))), (126, (.inl (po_get 14 20 129))), (129, (.inl (po_get 11 0 132))), (132, (.inl (po_if2 (fun x y => decide (y ≤ x)) 185 135))), (185, (.inl (po_aload 0 186))), (186, (.inl (po_get 14 1 189))), (189, (.inl (po_astore 1 190))), (190, (.inl (po_aload 0 191))), (191, (.inl (po_aload 0 192))), (192, (.inl (po_get 14 2 195))), (195, (.inl (po_putr 14 1 198))), (198, (.inl (po_aload 0 199))), (199, (.inl (po_aload 1 200))), (200, (.inl (po_putr 14 2 203))), (203, (.inr (re_v)))] := pr_aS_c (pr_eI (os_aload_n (q := 0) dX14_sweep_0)) (pr_aS_c (pr_eI (os_get (kf := 2) dX14_sweep_1 cf_14 (by decide) wd_137)) (pr_aS_c (pr_eI (os_cv dX14_sweep_4 (k := 95) rfl rfl cal_95 wd_165 wd_167 wd_166 rfl)) (pr_aS_c (pr_eI (os_iconst dX14_sweep_7 (by decide +kernel))) (pr_aS_c (pr_eI (os_istore_n (q := 1) dX14_sweep_8 (by decide))) (pr_aS_c (pr_eI (os_iload_n (q := 1) dX14_sweep_9)) (pr_aS_c (pr_eI (os_aload_n (q := 0) dX14_sweep_10)) (pr_aS_c (pr_eI (os_get (kf := 1) dX14_sweep_11 cf_14 (by decide) wd_136)) (pr_aS_c (pr_eI (os_get (kf := 0) dX14_sweep_14 cf_13 (by decide) wd_227)) (pr_aS_c (pr_eI (os_icmp_ge dX14_sweep_17 (by decide))) (pr_aS_c (pr_eI (os_aload_n (q := 0) dX14_sweep_20)) (pr_aS_c (pr_eI (os_get (kf := 1) dX14_sweep_21 cf_14 (by decide) wd_136)) (pr_aS_c (pr_eI (os_get (kf := 11) dX14_sweep_24 cf_13 (by decide) wd_220)) (pr_aS_c (pr_eI (os_iload_n (q := 1) dX14_sweep_27)) (pr_aS_c (pr_eI (os_iload_n (q := 1) dX14_sweep_28)) (pr_aS_c (pr_eI (os_bipush dX14_sweep_29 (by decide +kernel))) (pr_aS_c (pr_eI (os_icmp_ge dX14_sweep_31 (by decide))) (pr_aS_c (pr_eI (os_iload_n (q := 1) dX14_sweep_34)) (pr_aS_c (pr_eI (os_goto dX14_sweep_35 (by decide))) (pr_aS_c (pr_eI (os_iconst dX14_sweep_38 (by decide +kernel))) (pr_aS_c (pr_eI (os_iast dX14_sweep_39)) (pr_aS_c (pr_eI (os_iinc dX14_sweep_40 (by decide +kernel) (by decide))) (pr_aS_c (pr_eI (os_goto dX14_sweep_43 (by decide))) (pr_aS_c (pr_eI (os_iconst dX14_sweep_46 (by decide +kernel))) (pr_aS_c (pr_eI (os_istore_n (q := 1) dX14_sweep_47 (by decide))) (pr_aS_c (pr_eI (os_iload_n (q := 1) dX14_sweep_48)) (pr_aS_c (pr_eI (os_aload_n (q := 0) dX14_sweep_49)) (pr_aS_c (pr_eI (os_get (kf := 5) dX14_sweep_50 cf_14 (by decide) wd_143)) (pr_aS_c (pr_eI (os_get (kf := 0) dX14_sweep_53 cf_12 (by decide) wd_177)) (pr_aS_c (pr_eI (os_icmp_ge dX14_sweep_56 (by decide))) (pr_aS_c (pr_eI (os_iconst dX14_sweep_59 (by decide +kernel))) (pr_aS_c (pr_eI (os_istore_n (q := 2) dX14_sweep_60 (by decide))) (pr_aS_c (pr_eI (os_iload_n (q := 2) dX14_sweep_61)) (pr_aS_c (pr_eI (os_aload_n (q := 0) dX14_sweep_62)) (pr_aS_c (pr_eI (os_get (kf := 5) dX14_sweep_63 cf_14 (by decide) wd_143)) (pr_aS_c (pr_eI (os_get (kf := 0) dX14_sweep_66 cf_12 (by decide) wd_177)) (pr_aS_c (pr_eI (os_icmp_ge dX14_sweep_69 (by decide))) (pr_aS_c (pr_eI (os_aload_n (q := 0) dX14_sweep_72)) (pr_aS_c (pr_eI (os_get (kf := 5) dX14_sweep_73 cf_14 (by decide) wd_143)) (pr_aS_c (pr_eI (os_iload_n (q := 1) dX14_sweep_76)) (pr_aS_c (pr_eI (os_iload_n (q := 2) dX14_sweep_77)) (pr_aS_c (pr_eI (os_cv dX14_sweep_78 (k := 92) rfl rfl cal_92 wd_228 wd_230 wd_229 rfl)) (pr_aS_c (pr_eI (os_istore_n (q := 3) dX14_sweep_81 (by decide))) (pr_aS_c (pr_eI (os_aload_n (q := 0) dX14_sweep_82)) (pr_aS_c (pr_eI (os_get (kf := 5) dX14_sweep_83 cf_14 (by decide) wd_143)) (pr_aS_c (pr_eI (os_get (kf := 4) dX14_sweep_86 cf_12 (by decide) wd_183)) (pr_aS_c (pr_eI (os_bipush dX14_sweep_89 (by decide +kernel))) (pr_aS_c (pr_eI (os_iload_n (q := 1) dX14_sweep_91)) (pr_aS_c (pr_eI (os_imul dX14_sweep_92)) (pr_aS_c (pr_eI (os_iload_n (q := 2) dX14_sweep_93)) (pr_aS_c (pr_eI (os_iadd dX14_sweep_94)) (pr_aS_c (pr_eI (os_iload_n (q := 3) dX14_sweep_95)) (pr_aS_c (pr_eI (os_iconst dX14_sweep_96 (by decide +kernel))) (pr_aS_c (pr_eI (os_icmp_ne dX14_sweep_97 (by decide))) (pr_aS_c (pr_eI (os_iconst dX14_sweep_100 (by decide +kernel))) (pr_aS_c (pr_eI (os_goto dX14_sweep_101 (by decide))) (pr_aS_c (pr_eI (os_aload_n (q := 0) dX14_sweep_104)) (pr_aS_c (pr_eI (os_iload_n (q := 3) dX14_sweep_105)) (pr_aS_c (pr_eI (os_cv dX14_sweep_106 (k := 30) rfl rfl cal_30 wd_231 wd_233 wd_232 rfl)) (pr_aS_c (pr_eI (os_iast dX14_sweep_109)) (pr_aS_c (pr_eI (os_iinc dX14_sweep_110 (by decide +kernel) (by decide))) (pr_aS_c (pr_eI (os_goto dX14_sweep_113 (by decide))) (pr_aS_c (pr_eI (os_iinc dX14_sweep_116 (by decide +kernel) (by decide))) (pr_aS_c (pr_eI (os_goto dX14_sweep_119 (by decide))) (pr_aS_c (pr_eI (os_iconst dX14_sweep_122 (by decide +kernel))) (pr_aS_c (pr_eI (os_istore_n (q := 1) dX14_sweep_123 (by decide))) (pr_aS_c (pr_eI (os_iload_n (q := 1) dX14_sweep_124)) (pr_aS_c (pr_eI (os_aload_n (q := 0) dX14_sweep_125)) (pr_aS_c (pr_eI (os_get (kf := 20) dX14_sweep_126 cf_14 (by decide) wd_154)) (pr_aS_c (pr_eI (os_get (kf := 0) dX14_sweep_129 cf_11 (by decide) wd_217)) (pr_aS_c (pr_eI (os_icmp_ge dX14_sweep_132 (by decide))) (pr_aS_c (pr_eI (os_aload_n (q := 0) dX14_sweep_185)) (pr_aS_c (pr_eI (os_get (kf := 1) dX14_sweep_186 cf_14 (by decide) wd_136)) (pr_aS_c (pr_eI (os_astore_n (q := 1) dX14_sweep_189 (by decide))) (pr_aS_c (pr_eI (os_aload_n (q := 0) dX14_sweep_190)) (pr_aS_c (pr_eI (os_aload_n (q := 0) dX14_sweep_191)) (pr_aS_c (pr_eI (os_get (kf := 2) dX14_sweep_192 cf_14 (by decide) wd_137)) (pr_aS_c (pr_eI (os_putr (kf := 1) dX14_sweep_195 cf_14 (by decide) wd_136 rfl (Or.inl ⟨_, rfl⟩))) (pr_aS_c (pr_eI (os_aload_n (q := 0) dX14_sweep_198)) (pr_aS_c (pr_eI (os_aload_n (q := 1) dX14_sweep_199)) (pr_aS_c (pr_eI (os_putr (kf := 2) dX14_sweep_200 cf_14 (by decide) wd_137 rfl (Or.inl ⟨_, rfl⟩))) (pr_aS_c (pr_eR (rs_v dX14_sweep_203 rfl)) trivial)))))))))))))))))))))))))))))))))))))))))))))))))))))))))))))))))))))))))))))))))
theorem dX14_round_0 : decode cX14_round 0 = .ok (.aload_n 0, 1) := by decide +kernel
theorem dX14_round_1 : decode cX14_round 1 = .ok (.invokevirtual 368, 3) := by decide +kernel
theorem dX14_round_4 : decode cX14_round 4 = .ok (.aload_n 0, 1) := by decide +kernel
theorem dX14_round_5 : decode cX14_round 5 = .ok (.getfield 68, 3) := by decide +kernel
theorem dX14_round_8 : decode cX14_round 8 = .ok (.aload_n 0, 1) := by decide +kernel
theorem dX14_round_9 : decode cX14_round 9 = .ok (.getfield 64, 3) := by decide +kernel
theorem dX14_round_12 : decode cX14_round 12 = .ok (.invokevirtual 371, 3) := by decide +kernel
theorem dX14_round_15 : decode cX14_round 15 = .ok (.iconst 0, 1) := by decide +kernel
theorem dX14_round_16 : decode cX14_round 16 = .ok (.istore_n 1, 1) := by decide +kernel
theorem dX14_round_17 : decode cX14_round 17 = .ok (.iload_n 1, 1) := by decide +kernel
theorem dX14_round_18 : decode cX14_round 18 = .ok (.bipush 6, 2) := by decide +kernel
theorem dX14_round_20 : decode cX14_round 20 = .ok (.if_icmp .ge 211, 3) := by decide +kernel
theorem dX14_round_23 : decode cX14_round 23 = .ok (.iconst 0, 1) := by decide +kernel
theorem dX14_round_24 : decode cX14_round 24 = .ok (.istore_n 2, 1) := by decide +kernel
theorem dX14_round_25 : decode cX14_round 25 = .ok (.iconst 0, 1) := by decide +kernel
theorem dX14_round_26 : decode cX14_round 26 = .ok (.istore_n 3, 1) := by decide +kernel
theorem dX14_round_27 : decode cX14_round 27 = .ok (.iconst 0, 1) := by decide +kernel
theorem dX14_round_28 : decode cX14_round 28 = .ok (.istore 4, 2) := by decide +kernel
theorem dX14_round_30 : decode cX14_round 30 = .ok (.iconst 0, 1) := by decide +kernel
theorem dX14_round_31 : decode cX14_round 31 = .ok (.istore 5, 2) := by decide +kernel
theorem dX14_round_33 : decode cX14_round 33 = .ok (.iload 5, 2) := by decide +kernel
theorem dX14_round_35 : decode cX14_round 35 = .ok (.aload_n 0, 1) := by decide +kernel
theorem dX14_round_36 : decode cX14_round 36 = .ok (.getfield 68, 3) := by decide +kernel
theorem dX14_round_39 : decode cX14_round 39 = .ok (.getfield 281, 3) := by decide +kernel
theorem dX14_round_42 : decode cX14_round 42 = .ok (.if_icmp .ge 174, 3) := by decide +kernel
theorem dX14_round_216 : decode cX14_round 216 = .ok (.aload_n 0, 1) := by decide +kernel
theorem dX14_round_217 : decode cX14_round 217 = .ok (.iload_n 1, 1) := by decide +kernel
theorem dX14_round_218 : decode cX14_round 218 = .ok (.iload_n 2, 1) := by decide +kernel
theorem dX14_round_219 : decode cX14_round 219 = .ok (.iload_n 3, 1) := by decide +kernel
theorem dX14_round_220 : decode cX14_round 220 = .ok (.iload 4, 2) := by decide +kernel
theorem dX14_round_222 : decode cX14_round 222 = .ok (.invokevirtual 374, 3) := by decide +kernel
theorem dX14_round_225 : decode cX14_round 225 = .ok (.iinc 1 1, 3) := by decide +kernel
theorem dX14_round_228 : decode cX14_round 228 = .ok (.goto (-211), 3) := by decide +kernel
theorem dX14_round_231 : decode cX14_round 231 = .ok (.return_, 1) := by decide +kernel
/-- InferResolveModel.round()V -/
noncomputable def qc_32 : pr_Co := [(0, (.inl (po_aload 0 1))), (1, (.inl (po_cv 31 0 14 4 4))), (4, (.inl (po_aload 0 5))), (5, (.inl (po_get 14 21 8))), (8, (.inl (po_aload 0 9))), (9, (.inl (po_get 14 20 12))), (12, (.inl (po_cv 90 1 11 3 15))), (15, (.inl (po_push 0 16))), (16, (.inl (po_istore 1 17))), (17, (.inl (po_iload 1 18))), (18, (.inl (po_push 6 20))), (20, (.inl (po_if2 (fun x y => decide (y ≤ x)) 231 23))), (23, (.inl (po_push 0 24))), (24, (.inl (po_istore 2 25))), (25, (.inl (po_push 0 26))), (26, (.inl (po_istore 3 27))), (27, (.inl (po_push 0 28))), (28, (.inl (po_istore 4 30))), (30, (.inl (po_push 0 31))), (31, (.inl (po_istore 5 33))), (33, (.inl (po_iload 5 35))), (35, (.inl (po_aload 0 36))), (36, (.inl (po_get 14 21 39))), (39, (.inl (po_get 11 0 42))), (42, (.inl (po_if2 (fun x y => decide (y ≤ x)) 216 45))), (216, (.inl (po_aload 0 217))), (217, (.inl (po_iload 1 218))), (218, (.inl (po_iload 2 219))), (219, (.inl (po_iload 3 220))), (220, (.inl (po_iload 4 222))), (222, (.inl (po_cv 33 4 14 7 225))), (225, (.inl (po_iinc 1 1 228))), (228, (.inl (po_goto 17))), (231, (.inr (re_v)))]
set_option maxRecDepth 100000 in
set_option maxHeartbeats 4000000 in
theorem qs_32 : pr_aS pr_ms m_32 [(0, (.inl (po_aload 0 1))), (1, (.inl (po_cv 31 0 14 4 4))), (4, (.inl (po_aload 0 5))), (5, (.inl (po_get 14 21 8))), (8, (.inl (po_aload 0 9))), (9, (.inl (po_get 14 20 12))), (12, (.inl (po_cv 90 1 11 3 15))), (15, (.inl (po_push 0 16))), (16, (.inl (po_istore 1 17))), (17, (.inl (po_iload 1 18))), (18, (.inl (po_push 6 20))), (20, (.inl (po_if2 (fun x y => decide (y ≤ x)) 231 23))), (23, (.inl (po_push 0 24))), (24, (.inl (po_istore 2 25))), (25, (.inl (po_push 0 26))), (26, (.inl (po_istore 3 27))), (27, (.inl (po_push 0 28))), (28, (.inl (po_istore 4 30))), (30, (.inl (po_push 0 31))), (31, (.inl (po_istore 5 33))), (33, (.inl (po_iload 5 35))), (35, (.inl (po_aload 0 36))), (36, (.inl (po_get 14 21 39))), (39, (.inl (po_get 11 0 42))), (42, (.inl (po_if2 (fun x y => decide (y ≤ x)) 216 45))), (216, (.inl (po_aload 0 217))), (217, (.inl (po_iload 1 218))), (218, (.inl (po_iload 2 219))), (219, (.inl (po_iload 3 220))), (220, (.inl (po_iload 4 222))), (222, (.inl (po_cv 33 4 14 7 225))), (225, (.inl (po_iinc 1 1 228))), (228, (.inl (po_goto 17))), (231, (.inr (re_v)))] := pr_aS_c (pr_eI (os_aload_n (q := 0) dX14_round_0)) (pr_aS_c (pr_eI (os_cv dX14_round_1 (k := 31) rfl rfl cal_31 wd_234 wd_236 wd_235 rfl)) (pr_aS_c (pr_eI (os_aload_n (q := 0) dX14_round_4)) (pr_aS_c (pr_eI (os_get (kf := 21) dX14_round_5 cf_14 (by decide) wd_155)) (pr_aS_c (pr_eI (os_aload_n (q := 0) dX14_round_8)) (pr_aS_c (pr_eI (os_get (kf := 20) dX14_round_9 cf_14 (by decide) wd_154)) (pr_aS_c (pr_eI (os_cv dX14_round_12 (k := 90) rfl rfl cal_90 wd_237 wd_239 wd_238 rfl)) (pr_aS_c (pr_eI (os_iconst dX14_round_15 (by decide +kernel))) (pr_aS_c (pr_eI (os_istore_n (q := 1) dX14_round_16 (by decide))) (pr_aS_c (pr_eI (os_iload_n (q := 1) dX14_round_17)) (pr_aS_c (pr_eI (os_bipush dX14_round_18 (by decide +kernel))) (pr_aS_c (pr_eI (os_icmp_ge dX14_round_20 (by decide))) (pr_aS_c (pr_eI (os_iconst dX14_round_23 (by decide +kernel))) (pr_aS_c (pr_eI (os_istore_n (q := 2) dX14_round_24 (by decide))) (pr_aS_c (pr_eI (os_iconst dX14_round_25 (by decide +kernel))) (pr_aS_c (pr_eI (os_istore_n (q := 3) dX14_round_26 (by decide))) (pr_aS_c (pr_eI (os_iconst dX14_round_27 (by decide +kernel))) (pr_aS_c (pr_eI (os_istore dX14_round_28 (by decide))) (pr_aS_c (pr_eI (os_iconst dX14_round_30 (by decide +kernel))) (pr_aS_c (pr_eI (os_istore dX14_round_31 (by decide))) (pr_aS_c (pr_eI (os_iload dX14_round_33)) (pr_aS_c (pr_eI (os_aload_n (q := 0) dX14_round_35)) (pr_aS_c (pr_eI (os_get (kf := 21) dX14_round_36 cf_14 (by decide) wd_155)) (pr_aS_c (pr_eI (os_get (kf := 0) dX14_round_39 cf_11 (by decide) wd_217)) (pr_aS_c (pr_eI (os_icmp_ge dX14_round_42 (by decide))) (pr_aS_c (pr_eI (os_aload_n (q := 0) dX14_round_216)) (pr_aS_c (pr_eI (os_iload_n (q := 1) dX14_round_217)) (pr_aS_c (pr_eI (os_iload_n (q := 2) dX14_round_218)) (pr_aS_c (pr_eI (os_iload_n (q := 3) dX14_round_219)) (pr_aS_c (pr_eI (os_iload dX14_round_220)) (pr_aS_c (pr_eI (os_cv dX14_round_222 (k := 33) rfl rfl cal_33 wd_240 wd_242 wd_241 rfl)) (pr_aS_c (pr_eI (os_iinc dX14_round_225 (by decide +kernel) (by decide))) (pr_aS_c (pr_eI (os_goto dX14_round_228 (by decide))) (pr_aS_c (pr_eR (rs_v dX14_round_231 rfl)) trivial)))))))))))))))))))))))))))))))))
theorem dX14_pairs_0 : decode cX14_pairs 0 = .ok (.iconst 0, 1) := by decide +kernel
theorem dX14_pairs_1 : decode cX14_pairs 1 = .ok (.istore 5, 2) := by decide +kernel
theorem dX14_pairs_3 : decode cX14_pairs 3 = .ok (.iload 5, 2) := by decide +kernel
theorem dX14_pairs_5 : decode cX14_pairs 5 = .ok (.iload_n 2, 1) := by decide +kernel
theorem dX14_pairs_6 : decode cX14_pairs 6 = .ok (.if_icmp .ge 158, 3) := by decide +kernel
theorem dX14_pairs_164 : decode cX14_pairs 164 = .ok (.iconst 0, 1) := by decide +kernel
theorem dX14_pairs_165 : decode cX14_pairs 165 = .ok (.istore 5, 2) := by decide +kernel
theorem dX14_pairs_167 : decode cX14_pairs 167 = .ok (.iload 5, 2) := by decide +kernel
theorem dX14_pairs_169 : decode cX14_pairs 169 = .ok (.iload_n 3, 1) := by decide +kernel
theorem dX14_pairs_170 : decode cX14_pairs 170 = .ok (.if_icmp .ge 43, 3) := by decide +kernel
theorem dX14_pairs_213 : decode cX14_pairs 213 = .ok (.iconst 0, 1) := by decide +kernel
theorem dX14_pairs_214 : decode cX14_pairs 214 = .ok (.istore 5, 2) := by decide +kernel
theorem dX14_pairs_216 : decode cX14_pairs 216 = .ok (.iload 5, 2) := by decide +kernel
theorem dX14_pairs_218 : decode cX14_pairs 218 = .ok (.iload 4, 2) := by decide +kernel
theorem dX14_pairs_220 : decode cX14_pairs 220 = .ok (.if_icmp .ge 43, 3) := by decide +kernel
theorem dX14_pairs_263 : decode cX14_pairs 263 = .ok (.return_, 1) := by decide +kernel
/-- InferResolveModel.pairs(IIII)V -/
noncomputable def qc_33 : pr_Co := [(0, (.inl (po_push 0 1))), (1, (.inl (po_istore 5 3))), (3, (.inl (po_iload 5 5))), (5, (.inl (po_iload 2 6))), (6, (.inl (po_if2 (fun x y => decide (y ≤ x)) 164 9))), (164, (.inl (po_push 0 165))), (165, (.inl (po_istore 5 167))), (167, (.inl (po_iload 5 169))), (169, (.inl (po_iload 3 170))), (170, (.inl (po_if2 (fun x y => decide (y ≤ x)) 213 173))), (213, (.inl (po_push 0 214))), (214, (.inl (po_istore 5 216))), (216, (.inl (po_iload 5 218))), (218, (.inl (po_iload 4 220))), (220, (.inl (po_if2 (fun x y => decide (y ≤ x)) 263 223))), (263, (.inr (re_v)))]
set_option maxRecDepth 100000 in
set_option maxHeartbeats 4000000 in
theorem qs_33 : pr_aS pr_ms m_33 [(0, (.inl (po_push 0 1))), (1, (.inl (po_istore 5 3))), (3, (.inl (po_iload 5 5))), (5, (.inl (po_iload 2 6))), (6, (.inl (po_if2 (fun x y => decide (y ≤ x)) 164 9))), (164, (.inl (po_push 0 165))), (165, (.inl (po_istore 5 167))), (167, (.inl (po_iload 5 169))), (169, (.inl (po_iload 3 170))), (170, (.inl (po_if2 (fun x y => decide (y ≤ x)) 213 173))), (213, (.inl (po_push 0 214))), (214, (.inl (po_istore 5 216))), (216, (.inl (po_iload 5 218))), (218, (.inl (po_iload 4 220))), (220, (.inl (po_if2 (fun x y => decide (y ≤ x)) 263 223))), (263, (.inr (re_v)))] := pr_aS_c (pr_eI (os_iconst dX14_pairs_0 (by decide +kernel))) (pr_aS_c (pr_eI (os_istore dX14_pairs_1 (by decide))) (pr_aS_c (pr_eI (os_iload dX14_pairs_3)) (pr_aS_c (pr_eI (os_iload_n (q := 2) dX14_pairs_5)) (pr_aS_c (pr_eI (os_icmp_ge dX14_pairs_6 (by decide))) (pr_aS_c (pr_eI (os_iconst dX14_pairs_164 (by decide +kernel))) (pr_aS_c (pr_eI (os_istore dX14_pairs_165 (by decide))) (pr_aS_c (pr_eI (os_iload dX14_pairs_167)) (pr_aS_c (pr_eI (os_iload_n (q := 3) dX14_pairs_169)) (pr_aS_c (pr_eI (os_icmp_ge dX14_pairs_170 (by decide))) (pr_aS_c (pr_eI (os_iconst dX14_pairs_213 (by decide +kernel))) (pr_aS_c (pr_eI (os_istore dX14_pairs_214 (by decide))) (pr_aS_c (pr_eI (os_iload dX14_pairs_216)) (pr_aS_c (pr_eI (os_iload dX14_pairs_218)) (pr_aS_c (pr_eI (os_icmp_ge dX14_pairs_220 (by decide))) (pr_aS_c (pr_eR (rs_v dX14_pairs_263 rfl)) trivial)))))))))))))))
theorem dX14_closing_0 : decode cX14_closing 0 = .ok (.aload_n 0, 1) := by decide +kernel
theorem dX14_closing_1 : decode cX14_closing 1 = .ok (.iconst 0, 1) := by decide +kernel
theorem dX14_closing_2 : decode cX14_closing 2 = .ok (.putfield 285, 3) := by decide +kernel
theorem dX14_closing_5 : decode cX14_closing 5 = .ok (.iconst 1, 1) := by decide +kernel
theorem dX14_closing_6 : decode cX14_closing 6 = .ok (.istore_n 2, 1) := by decide +kernel
theorem dX14_closing_7 : decode cX14_closing 7 = .ok (.iload_n 1, 1) := by decide +kernel
theorem dX14_closing_8 : decode cX14_closing 8 = .ok (.istore_n 3, 1) := by decide +kernel
theorem dX14_closing_9 : decode cX14_closing 9 = .ok (.iload_n 2, 1) := by decide +kernel
theorem dX14_closing_10 : decode cX14_closing 10 = .ok (.ifCond .eq 96, 3) := by decide +kernel
theorem dX14_closing_13 : decode cX14_closing 13 = .ok (.aload_n 0, 1) := by decide +kernel
theorem dX14_closing_14 : decode cX14_closing 14 = .ok (.iconst 0, 1) := by decide +kernel
theorem dX14_closing_15 : decode cX14_closing 15 = .ok (.putfield 320, 3) := by decide +kernel
theorem dX14_closing_18 : decode cX14_closing 18 = .ok (.aload_n 0, 1) := by decide +kernel
theorem dX14_closing_19 : decode cX14_closing 19 = .ok (.iconst 0, 1) := by decide +kernel
theorem dX14_closing_20 : decode cX14_closing 20 = .ok (.putfield 337, 3) := by decide +kernel
theorem dX14_closing_23 : decode cX14_closing 23 = .ok (.aload_n 0, 1) := by decide +kernel
theorem dX14_closing_24 : decode cX14_closing 24 = .ok (.iload_n 3, 1) := by decide +kernel
theorem dX14_closing_25 : decode cX14_closing 25 = .ok (.putfield 324, 3) := by decide +kernel
theorem dX14_closing_28 : decode cX14_closing 28 = .ok (.iconst 0, 1) := by decide +kernel
theorem dX14_closing_29 : decode cX14_closing 29 = .ok (.istore_n 3, 1) := by decide +kernel
theorem dX14_closing_30 : decode cX14_closing 30 = .ok (.aload_n 0, 1) := by decide +kernel
theorem dX14_closing_31 : decode cX14_closing 31 = .ok (.dup, 1) := by decide +kernel
theorem dX14_closing_32 : decode cX14_closing 32 = .ok (.getfield 285, 3) := by decide +kernel
theorem dX14_closing_35 : decode cX14_closing 35 = .ok (.iconst 1, 1) := by decide +kernel
theorem dX14_closing_36 : decode cX14_closing 36 = .ok (.iadd, 1) := by decide +kernel
theorem dX14_closing_37 : decode cX14_closing 37 = .ok (.putfield 285, 3) := by decide +kernel
theorem dX14_closing_40 : decode cX14_closing 40 = .ok (.aload_n 0, 1) := by decide +kernel
theorem dX14_closing_41 : decode cX14_closing 41 = .ok (.invokevirtual 392, 3) := by decide +kernel
theorem dX14_closing_44 : decode cX14_closing 44 = .ok (.aload_n 0, 1) := by decide +kernel
theorem dX14_closing_45 : decode cX14_closing 45 = .ok (.aload_n 0, 1) := by decide +kernel
theorem dX14_closing_46 : decode cX14_closing 46 = .ok (.getfield 337, 3) := by decide +kernel
theorem dX14_closing_49 : decode cX14_closing 49 = .ok (.ifCond .eq 7, 3) := by decide +kernel
theorem dX14_closing_56 : decode cX14_closing 56 = .ok (.aload_n 0, 1) := by decide +kernel
theorem dX14_closing_57 : decode cX14_closing 57 = .ok (.getfield 324, 3) := by decide +kernel
theorem dX14_closing_60 : decode cX14_closing 60 = .ok (.ifCond .ne 15, 3) := by decide +kernel
theorem dX14_closing_63 : decode cX14_closing 63 = .ok (.aload_n 0, 1) := by decide +kernel
theorem dX14_closing_64 : decode cX14_closing 64 = .ok (.getfield 64, 3) := by decide +kernel
theorem dX14_closing_67 : decode cX14_closing 67 = .ok (.getfield 281, 3) := by decide +kernel
theorem dX14_closing_70 : decode cX14_closing 70 = .ok (.bipush 48, 2) := by decide +kernel
theorem dX14_closing_72 : decode cX14_closing 72 = .ok (.if_icmp .le 7, 3) := by decide +kernel
theorem dX14_closing_79 : decode cX14_closing 79 = .ok (.iconst 0, 1) := by decide +kernel
theorem dX14_closing_80 : decode cX14_closing 80 = .ok (.putfield 282, 3) := by decide +kernel
theorem dX14_closing_83 : decode cX14_closing 83 = .ok (.aload_n 0, 1) := by decide +kernel
theorem dX14_closing_84 : decode cX14_closing 84 = .ok (.getfield 282, 3) := by decide +kernel
theorem dX14_closing_87 : decode cX14_closing 87 = .ok (.ifCond .ne 14, 3) := by decide +kernel
theorem dX14_closing_90 : decode cX14_closing 90 = .ok (.aload_n 0, 1) := by decide +kernel
theorem dX14_closing_91 : decode cX14_closing 91 = .ok (.getfield 320, 3) := by decide +kernel
theorem dX14_closing_94 : decode cX14_closing 94 = .ok (.ifCond .eq 7, 3) := by decide +kernel
theorem dX14_closing_101 : decode cX14_closing 101 = .ok (.iconst 0, 1) := by decide +kernel
theorem dX14_closing_102 : decode cX14_closing 102 = .ok (.istore_n 2, 1) := by decide +kernel
theorem dX14_closing_103 : decode cX14_closing 103 = .ok (.goto (-94), 3) := by decide +kernel
theorem dX14_closing_106 : decode cX14_closing 106 = .ok (.return_, 1) := by decide +kernel
/-- InferResolveModel.closing(Z)V -/
noncomputable def qc_34 : pr_Co := [(0, (.inl (po_aload 0 1))), (1, (.inl (po_push 0 2))), (2, (.inl (po_puti 14 23 5))), (5, (.inl (po_push 1 6))), (6, (.inl (po_istore 2 7))), (7, (.inl (po_iload 1 8))), (8, (.inl (po_istore 3 9))), (9, (.inl (po_iload 2 10))), (10, (.inl (po_if1 (fun x => decide (x = 0)) 106 13))), (13, (.inl (po_aload 0 14))), (14, (.inl (po_push 0 15))), (15, (.inl (po_putz 14 26 18))), (18, (.inl (po_aload 0 19))), (19, (.inl (po_push 0 20))), (20, (.inl (po_putz 14 24 23))), (23, (.inl (po_aload 0 24))), (24, (.inl (po_iload 3 25))), (25, (.inl (po_putz 14 25 28))), (28, (.inl (po_push 0 29))), (29, (.inl (po_istore 3 30))), (30, (.inl (po_aload 0 31))), (31, (.inl (po_dup 32))), (32, (.inl (po_get 14 23 35))), (35, (.inl (po_push 1 36))), (36, (.inl (po_i2 (fun x y => x + y) 37))), (37, (.inl (po_puti 14 23 40))), (40, (.inl (po_aload 0 41))), (41, (.inl (po_cv 32 0 14 6 44))), (44, (.inl (po_aload 0 45))), (45, (.inl (po_aload 0 46))), (46, (.inl (po_get 14 24 49))), (49, (.inl (po_if1 (fun x => decide (x = 0)) 56 52))), (56, (.inl (po_aload 0 57))), (57, (.inl (po_get 14 25 60))), (60, (.inl (po_if1 (fun x => !decide (x = 0)) 75 63))), (63, (.inl (po_aload 0 64))), (64, (.inl (po_get 14 20 67))), (67, (.inl (po_get 11 0 70))), (70, (.inl (po_push 48 72))), (72, (.inl (po_if2 (fun x y => decide (x ≤ y)) 79 75))), (79, (.inl (po_push 0 80))), (80, (.inl (po_puti 14 22 83))), (83, (.inl (po_aload 0 84))), (84, (.inl (po_get 14 22 87))), (87, (.inl (po_if1 (fun x => !decide (x = 0)) 101 90))), (90, (.inl (po_aload 0 91))), (91, (.inl (po_get 14 26 94))), (94, (.inl (po_if1 (fun x => decide (x = 0)) 101 97))), (101, (.inl (po_push 0 102))), (102, (.inl (po_istore 2 103))), (103, (.inl (po_goto 9))), (106, (.inr (re_v)))]
set_option maxRecDepth 100000 in
set_option maxHeartbeats 4000000 in
theorem qs_34 : pr_aS pr_ms m_34 [(0, (.inl (po_aload 0 1))), (1, (.inl (po_push 0 2))), (2, (.inl (po_puti 14 23 5))), (5, (.inl (po_push 1 6))), (6, (.inl (po_istore 2 7))), (7, (.inl (po_iload 1 8))), (8, (.inl (po_istore 3 9))), (9, (.inl (po_iload 2 10))), (10, (.inl (po_if1 (fun x => decide (x = 0)) 106 13))), (13, (.inl (po_aload 0 14))), (14, (.inl (po_push 0 15))), (15, (.inl (po_putz 14 26 18))), (18, (.inl (po_aload 0 19))), (19, (.inl (po_push 0 20))), (20, (.inl (po_putz 14 24 23))), (23, (.inl (po_aload 0 24))), (24, (.inl (po_iload 3 25))), (25, (.inl (po_putz 14 25 28))), (28, (.inl (po_push 0 29))), (29, (.inl (po_istore 3 30))), (30, (.inl (po_aload 0 31))), (31, (.inl (po_dup 32))), (32, (.inl (po_get 14 23 35))), (35, (.inl (po_push 1 36))), (36, (.inl (po_i2 (fun x y => x + y) 37))), (37, (.inl (po_puti 14 23 40))), (40, (.inl (po_aload 0 41))), (41, (.inl (po_cv 32 0 14 6 44))), (44, (.inl (po_aload 0 45))), (45, (.inl (po_aload 0 46))), (46, (.inl (po_get 14 24 49))), (49, (.inl (po_if1 (fun x => decide (x = 0)) 56 52))), (56, (.inl (po_aload 0 57))), (57, (.inl (po_get 14 25 60))), (60, (.inl (po_if1 (fun x => !decide (x = 0)) 75 63))), (63, (.inl (po_aload 0 64))), (64, (.inl (po_get 14 20 67))), (67, (.inl (po_get 11 0 70))), (70, (.inl (po_push 48 72))), (72, (.inl (po_if2 (fun x y => decide (x ≤ y)) 79 75))), (79, (.inl (po_push 0 80))), (80, (.inl (po_puti 14 22 83))), (83, (.inl (po_aload 0 84))), (84, (.inl (po_get 14 22 87))), (87, (.inl (po_if1 (fun x => !decide (x = 0)) 101 90))), (90, (.inl (po_aload 0 91))), (91, (.inl (po_get 14 26 94))), (94, (.inl (po_if1 (fun x => decide (x = 0)) 101 97))), (101, (.inl (po_push 0 102))), (102, (.inl (po_istore 2 103))), (103, (.inl (po_goto 9))), (106, (.inr (re_v)))] := pr_aS_c (pr_eI (os_aload_n (q := 0) dX14_closing_0)) (pr_aS_c (pr_eI (os_iconst dX14_closing_1 (by decide +kernel))) (pr_aS_c (pr_eI (os_puti (kf := 23) dX14_closing_2 cf_14 (by decide) wd_219 rfl rfl)) (pr_aS_c (pr_eI (os_iconst dX14_closing_5 (by decide +kernel))) (pr_aS_c (pr_eI (os_istore_n (q := 2) dX14_closing_6 (by decide))) (pr_aS_c (pr_eI (os_iload_n (q := 1) dX14_closing_7)) (pr_aS_c (pr_eI (os_istore_n (q := 3) dX14_closing_8 (by decide))) (pr_aS_c (pr_eI (os_iload_n (q := 2) dX14_closing_9)) (pr_aS_c (pr_eI (os_if_eq dX14_closing_10 (by decide))) (pr_aS_c (pr_eI (os_aload_n (q := 0) dX14_closing_13)) (pr_aS_c (pr_eI (os_iconst dX14_closing_14 (by decide +kernel))) (pr_aS_c (pr_eI (os_putz (kf := 26) dX14_closing_15 cf_14 (by decide) wd_243 rfl rfl)) (pr_aS_c (pr_eI (os_aload_n (q := 0) dX14_closing_18)) (pr_aS_c (pr_eI (os_iconst dX14_closing_19 (by decide +kernel))) (pr_aS_c (pr_eI (os_putz (kf := 24) dX14_closing_20 cf_14 (by decide) wd_244 rfl rfl)) (pr_aS_c (pr_eI (os_aload_n (q := 0) dX14_closing_23)) (pr_aS_c (pr_eI (os_iload_n (q := 3) dX14_closing_24)) (pr_aS_c (pr_eI (os_putz (kf := 25) dX14_closing_25 cf_14 (by decide) wd_245 rfl rfl)) (pr_aS_c (pr_eI (os_iconst dX14_closing_28 (by decide +kernel))) (pr_aS_c (pr_eI (os_istore_n (q := 3) dX14_closing_29 (by decide))) (pr_aS_c (pr_eI (os_aload_n (q := 0) dX14_closing_30)) (pr_aS_c (pr_eI (os_dup dX14_closing_31)) (pr_aS_c (pr_eI (os_get (kf := 23) dX14_closing_32 cf_14 (by decide) wd_219)) (pr_aS_c (pr_eI (os_iconst dX14_closing_35 (by decide +kernel))) (pr_aS_c (pr_eI (os_iadd dX14_closing_36)) (pr_aS_c (pr_eI (os_puti (kf := 23) dX14_closing_37 cf_14 (by decide) wd_219 rfl rfl)) (pr_aS_c (pr_eI (os_aload_n (q := 0) dX14_closing_40)) (pr_aS_c (pr_eI (os_cv dX14_closing_41 (k := 32) rfl rfl cal_32 wd_246 wd_248 wd_247 rfl)) (pr_aS_c (pr_eI (os_aload_n (q := 0) dX14_closing_44)) (pr_aS_c (pr_eI (os_aload_n (q := 0) dX14_closing_45)) (pr_aS_c (pr_eI (os_get (kf := 24) dX14_closing_46 cf_14 (by decide) wd_244)) (pr_aS_c (pr_eI (os_if_eq dX14_closing_49 (by decide))) (pr_aS_c (pr_eI (os_aload_n (q := 0) dX14_closing_56)) (pr_aS_c (pr_eI (os_get (kf := 25) dX14_closing_57 cf_14 (by decide) wd_245)) (pr_aS_c (pr_eI (os_if_ne dX14_closing_60 (by decide))) (pr_aS_c (pr_eI (os_aload_n (q := 0) dX14_closing_63)) (pr_aS_c (pr_eI (os_get (kf := 20) dX14_closing_64 cf_14 (by decide) wd_154)) (pr_aS_c (pr_eI (os_get (kf := 0) dX14_closing_67 cf_11 (by decide) wd_217)) (pr_aS_c (pr_eI (os_bipush dX14_closing_70 (by decide +kernel))) (pr_aS_c (pr_eI (os_icmp_le dX14_closing_72 (by decide))) (pr_aS_c (pr_eI (os_iconst dX14_closing_79 (by decide +kernel))) (pr_aS_c (pr_eI (os_puti (kf := 22) dX14_closing_80 cf_14 (by decide) wd_218 rfl rfl)) (pr_aS_c (pr_eI (os_aload_n (q := 0) dX14_closing_83)) (pr_aS_c (pr_eI (os_get (kf := 22) dX14_closing_84 cf_14 (by decide) wd_218)) (pr_aS_c (pr_eI (os_if_ne dX14_closing_87 (by decide))) (pr_aS_c (pr_eI (os_aload_n (q := 0) dX14_closing_90)) (pr_aS_c (pr_eI (os_get (kf := 26) dX14_closing_91 cf_14 (by decide) wd_243)) (pr_aS_c (pr_eI (os_if_eq dX14_closing_94 (by decide))) (pr_aS_c (pr_eI (os_iconst dX14_closing_101 (by decide +kernel))) (pr_aS_c (pr_eI (os_istore_n (q := 2) dX14_closing_102 (by decide))) (pr_aS_c (pr_eI (os_goto dX14_closing_103 (by decide))) (pr_aS_c (pr_eR (rs_v dX14_closing_106 rfl)) trivial)))))))))))))))))))))))))))))))))))))))))))))))))))
theorem dX14_solved_0 : decode cX14_solved 0 = .ok (.iconst 0, 1) := by decide +kernel
theorem dX14_solved_1 : decode cX14_solved 1 = .ok (.istore_n 1, 1) := by decide +kernel
theorem dX14_solved_2 : decode cX14_solved 2 = .ok (.iconst 0, 1) := by decide +kernel
theorem dX14_solved_3 : decode cX14_solved 3 = .ok (.istore_n 2, 1) := by decide +kernel
theorem dX14_solved_4 : decode cX14_solved 4 = .ok (.iload_n 2, 1) := by decide +kernel
theorem dX14_solved_5 : decode cX14_solved 5 = .ok (.aload_n 0, 1) := by decide +kernel
theorem dX14_solved_6 : decode cX14_solved 6 = .ok (.getfield 278, 3) := by decide +kernel
theorem dX14_solved_9 : decode cX14_solved 9 = .ok (.if_icmp .ge 28, 3) := by decide +kernel
theorem dX14_solved_37 : decode cX14_solved 37 = .ok (.iload_n 1, 1) := by decide +kernel
theorem dX14_solved_38 : decode cX14_solved 38 = .ok (.ireturn, 1) := by decide +kernel
/-- InferResolveModel.solved()I -/
noncomputable def qc_35 : pr_Co := [(0, (.inl (po_push 0 1))), (1, (.inl (po_istore 1 2))), (2, (.inl (po_push 0 3))), (3, (.inl (po_istore 2 4))), (4, (.inl (po_iload 2 5))), (5, (.inl (po_aload 0 6))), (6, (.inl (po_get 14 8 9))), (9, (.inl (po_if2 (fun x y => decide (y ≤ x)) 37 12))), (37, (.inl (po_iload 1 38))), (38, (.inr (re_i)))]
set_option maxRecDepth 100000 in
set_option maxHeartbeats 4000000 in
theorem qs_35 : pr_aS pr_ms m_35 [(0, (.inl (po_push 0 1))), (1, (.inl (po_istore 1 2))), (2, (.inl (po_push 0 3))), (3, (.inl (po_istore 2 4))), (4, (.inl (po_iload 2 5))), (5, (.inl (po_aload 0 6))), (6, (.inl (po_get 14 8 9))), (9, (.inl (po_if2 (fun x y => decide (y ≤ x)) 37 12))), (37, (.inl (po_iload 1 38))), (38, (.inr (re_i)))] := pr_aS_c (pr_eI (os_iconst dX14_solved_0 (by decide +kernel))) (pr_aS_c (pr_eI (os_istore_n (q := 1) dX14_solved_1 (by decide))) (pr_aS_c (pr_eI (os_iconst dX14_solved_2 (by decide +kernel))) (pr_aS_c (pr_eI (os_istore_n (q := 2) dX14_solved_3 (by decide))) (pr_aS_c (pr_eI (os_iload_n (q := 2) dX14_solved_4)) (pr_aS_c (pr_eI (os_aload_n (q := 0) dX14_solved_5)) (pr_aS_c (pr_eI (os_get (kf := 8) dX14_solved_6 cf_14 (by decide) wd_216)) (pr_aS_c (pr_eI (os_icmp_ge dX14_solved_9 (by decide))) (pr_aS_c (pr_eI (os_iload_n (q := 1) dX14_solved_37)) (pr_aS_c (pr_eR (rs_i dX14_solved_38 rfl)) trivial)))))))))
theorem dX14_nextSet_0 : decode cX14_nextSet 0 = .ok (.iconst 0, 1) := by decide +kernel
theorem dX14_nextSet_1 : decode cX14_nextSet 1 = .ok (.istore_n 1, 1) := by decide +kernel
theorem dX14_nextSet_2 : decode cX14_nextSet 2 = .ok (.iload_n 1, 1) := by decide +kernel
theorem dX14_nextSet_3 : decode cX14_nextSet 3 = .ok (.bipush 6, 2) := by decide +kernel
theorem dX14_nextSet_5 : decode cX14_nextSet 5 = .ok (.if_icmp .ge 18, 3) := by decide +kernel
theorem dX14_nextSet_8 : decode cX14_nextSet 8 = .ok (.aload_n 0, 1) := by decide +kernel
theorem dX14_nextSet_9 : decode cX14_nextSet 9 = .ok (.getfield 89, 3) := by decide +kernel
theorem dX14_nextSet_12 : decode cX14_nextSet 12 = .ok (.iload_n 1, 1) := by decide +kernel
theorem dX14_nextSet_13 : decode cX14_nextSet 13 = .ok (.iconst 1, 1) := by decide +kernel
theorem dX14_nextSet_14 : decode cX14_nextSet 14 = .ok (.iload_n 1, 1) := by decide +kernel
theorem dX14_nextSet_15 : decode cX14_nextSet 15 = .ok (.ishl, 1) := by decide +kernel
theorem dX14_nextSet_16 : decode cX14_nextSet 16 = .ok (.iastore, 1) := by decide +kernel
theorem dX14_nextSet_17 : decode cX14_nextSet 17 = .ok (.iinc 1 1, 3) := by decide +kernel
theorem dX14_nextSet_20 : decode cX14_nextSet 20 = .ok (.goto (-18), 3) := by decide +kernel
theorem dX14_nextSet_23 : decode cX14_nextSet 23 = .ok (.iconst 0, 1) := by decide +kernel
theorem dX14_nextSet_24 : decode cX14_nextSet 24 = .ok (.istore_n 1, 1) := by decide +kernel
theorem dX14_nextSet_25 : decode cX14_nextSet 25 = .ok (.iload_n 1, 1) := by decide +kernel
theorem dX14_nextSet_26 : decode cX14_nextSet 26 = .ok (.aload_n 0, 1) := by decide +kernel
theorem dX14_nextSet_27 : decode cX14_nextSet 27 = .ok (.getfield 64, 3) := by decide +kernel
theorem dX14_nextSet_30 : decode cX14_nextSet 30 = .ok (.getfield 281, 3) := by decide +kernel
theorem dX14_nextSet_33 : decode cX14_nextSet 33 = .ok (.if_icmp .ge 109, 3) := by decide +kernel
theorem dX14_nextSet_142 : decode cX14_nextSet 142 = .ok (.iconst 0, 1) := by decide +kernel
theorem dX14_nextSet_143 : decode cX14_nextSet 143 = .ok (.istore_n 1, 1) := by decide +kernel
theorem dX14_nextSet_144 : decode cX14_nextSet 144 = .ok (.iload_n 1, 1) := by decide +kernel
theorem dX14_nextSet_145 : decode cX14_nextSet 145 = .ok (.bipush 6, 2) := by decide +kernel
theorem dX14_nextSet_147 : decode cX14_nextSet 147 = .ok (.if_icmp .ge 56, 3) := by decide +kernel
theorem dX14_nextSet_150 : decode cX14_nextSet 150 = .ok (.iconst 0, 1) := by decide +kernel
theorem dX14_nextSet_151 : decode cX14_nextSet 151 = .ok (.istore_n 2, 1) := by decide +kernel
theorem dX14_nextSet_152 : decode cX14_nextSet 152 = .ok (.iload_n 2, 1) := by decide +kernel
theorem dX14_nextSet_153 : decode cX14_nextSet 153 = .ok (.bipush 6, 2) := by decide +kernel
theorem dX14_nextSet_155 : decode cX14_nextSet 155 = .ok (.if_icmp .ge 42, 3) := by decide +kernel
theorem dX14_nextSet_158 : decode cX14_nextSet 158 = .ok (.aload_n 0, 1) := by decide +kernel
theorem dX14_nextSet_159 : decode cX14_nextSet 159 = .ok (.getfield 89, 3) := by decide +kernel
theorem dX14_nextSet_162 : decode cX14_nextSet 162 = .ok (.iload_n 2, 1) := by decide +kernel
theorem dX14_nextSet_163 : decode cX14_nextSet 163 = .ok (.dup2, 1) := by decide +kernel
theorem dX14_nextSet_164 : decode cX14_nextSet 164 = .ok (.iaload, 1) := by decide +kernel
theorem dX14_nextSet_165 : decode cX14_nextSet 165 = .ok (.aload_n 0, 1) := by decide +kernel
theorem dX14_nextSet_166 : decode cX14_nextSet 166 = .ok (.getfield 89, 3) := by decide +kernel
theorem dX14_nextSet_169 : decode cX14_nextSet 169 = .ok (.iload_n 2, 1) := by decide +kernel
theorem dX14_nextSet_170 : decode cX14_nextSet 170 = .ok (.iaload, 1) := by decide +kernel
theorem dX14_nextSet_171 : decode cX14_nextSet 171 = .ok (.iload_n 1, 1) := by decide +kernel
theorem dX14_nextSet_172 : decode cX14_nextSet 172 = .ok (.ishr, 1) := by decide +kernel
theorem dX14_nextSet_173 : decode cX14_nextSet 173 = .ok (.iconst 1, 1) := by decide +kernel
theorem dX14_nextSet_174 : decode cX14_nextSet 174 = .ok (.iand, 1) := by decide +kernel
theorem dX14_nextSet_175 : decode cX14_nextSet 175 = .ok (.iconst 1, 1) := by decide +kernel
theorem dX14_nextSet_176 : decode cX14_nextSet 176 = .ok (.if_icmp .ne 12, 3) := by decide +kernel
theorem dX14_nextSet_179 : decode cX14_nextSet 179 = .ok (.aload_n 0, 1) := by decide +kernel
theorem dX14_nextSet_180 : decode cX14_nextSet 180 = .ok (.getfield 89, 3) := by decide +kernel
theorem dX14_nextSet_183 : decode cX14_nextSet 183 = .ok (.iload_n 1, 1) := by decide +kernel
theorem dX14_nextSet_184 : decode cX14_nextSet 184 = .ok (.iaload, 1) := by decide +kernel
theorem dX14_nextSet_185 : decode cX14_nextSet 185 = .ok (.goto 4, 3) := by decide +kernel
theorem dX14_nextSet_188 : decode cX14_nextSet 188 = .ok (.iconst 0, 1) := by decide +kernel
theorem dX14_nextSet_189 : decode cX14_nextSet 189 = .ok (.ior, 1) := by decide +kernel
theorem dX14_nextSet_190 : decode cX14_nextSet 190 = .ok (.iastore, 1) := by decide +kernel
theorem dX14_nextSet_191 : decode cX14_nextSet 191 = .ok (.iinc 2 1, 3) := by decide +kernel
theorem dX14_nextSet_194 : decode cX14_nextSet 194 = .ok (.goto (-42), 3) := by decide +kernel
theorem dX14_nextSet_197 : decode cX14_nextSet 197 = .ok (.iinc 1 1, 3) := by decide +kernel
theorem dX14_nextSet_200 : decode cX14_nextSet 200 = .ok (.goto (-56), 3) := by decide +kernel
theorem dX14_nextSet_203 : decode cX14_nextSet 203 = .ok (.iconst 1, 1) := by decide +kernel
theorem dX14_nextSet_204 : decode cX14_nextSet 204 = .ok (.aload_n 0, 1) := by decide +kernel
theorem dX14_nextSet_205 : decode cX14_nextSet 205 = .ok (.getfield 278, 3) := by decide +kernel
theorem dX14_nextSet_208 : decode cX14_nextSet 208 = .ok (.ishl, 1) := by decide +kernel
theorem dX14_nextSet_209 : decode cX14_nextSet 209 = .ok (.iconst 1, 1) := by decide +kernel
theorem dX14_nextSet_210 : decode cX14_nextSet 210 = .ok (.isub, 1) := by decide +kernel
theorem dX14_nextSet_211 : decode cX14_nextSet 211 = .ok (.aload_n 0, 1) := by decide +kernel
theorem dX14_nextSet_212 : decode cX14_nextSet 212 = .ok (.invokevirtual 398, 3) := by decide +kernel
theorem dX14_nextSet_215 : decode cX14_nextSet 215 = .ok (.iconst (-1), 1) := by decide +kernel
theorem dX14_nextSet_216 : decode cX14_nextSet 216 = .ok (.ixor, 1) := by decide +kernel
theorem dX14_nextSet_217 : decode cX14_nextSet 217 = .ok (.iand, 1) := by decide +kernel
theorem dX14_nextSet_218 : decode cX14_nextSet 218 = .ok (.istore_n 1, 1) := by decide +kernel
theorem dX14_nextSet_219 : decode cX14_nextSet 219 = .ok (.iconst 0, 1) := by decide +kernel
theorem dX14_nextSet_220 : decode cX14_nextSet 220 = .ok (.istore_n 2, 1) := by decide +kernel
theorem dX14_nextSet_221 : decode cX14_nextSet 221 = .ok (.iconst 0, 1) := by decide +kernel
theorem dX14_nextSet_222 : decode cX14_nextSet 222 = .ok (.istore_n 3, 1) := by decide +kernel
theorem dX14_nextSet_223 : decode cX14_nextSet 223 = .ok (.iload_n 3, 1) := by decide +kernel
theorem dX14_nextSet_224 : decode cX14_nextSet 224 = .ok (.aload_n 0, 1) := by decide +kernel
theorem dX14_nextSet_225 : decode cX14_nextSet 225 = .ok (.getfield 278, 3) := by decide +kernel
theorem dX14_nextSet_228 : decode cX14_nextSet 228 = .ok (.if_icmp .ge 47, 3) := by decide +kernel
theorem dX14_nextSet_275 : decode cX14_nextSet 275 = .ok (.iload_n 2, 1) := by decide +kernel
theorem dX14_nextSet_276 : decode cX14_nextSet 276 = .ok (.ireturn, 1) := by decide +kernel
/-- InferResolveModel.nextSet()I -/
noncomputable def qc_36 : pr_Co := [(0, (.inl (po_push 0 1))), (1, (.inl (po_istore 1 2))), (2, (.inl (po_iload 1 3))), (3, (.inl (po_push 6 5))), (5, (.inl (po_if2 (fun x y => decide (y ≤ x)) 23 8))), (8, (.inl (po_aload 0 9))), (9, (.inl (po_get 14 34 12))), (12, (.inl (po_iload 1 13))), (13, (.inl (po_push 1 14))), (14, (.inl (po_iload 1 15))), (15, (.inl (po_i2 (fun x y => x <<< (y &&& 31)) 16))), (16, (.inl (po_iast 17))), (17, (.inl (po_iinc 1 1 20))), (20, (.inl (po_goto 2))), (23, (.inl (po_push 0 24))), (24, (.inl (po_istore 1 25))), (25, (.inl (po_iload 1 26))), (26, (.inl (po_aload 0 27))), (27, (.inl (po_get 14 20 30))), (30, (.inl (po_get 11 0 33))), (33, (.inl (po_if2 (fun x y => decide (y ≤ x)) 142 36))), (142, (.inl (po_push 0 143))), (143, (.inl (po_istore 1 144))), (144, (.inl (po_iload 1 145))), (145, (.inl (po_push 6 147))), (147, (.inl (po_if2 (fun x y => decide (y ≤ x)) 203 150))), (150, (.inl (po_push 0 151))), (151, (.inl (po_istore 2 152))), (152, (.inl (po_iload 2 153))), (153, (.inl (po_push 6 155))), (155, (.inl (po_if2 (fun x y => decide (y ≤ x)) 197 158))), (158, (.inl (po_aload 0 159))), (159, (.inl (po_get 14 34 162))), (162, (.inl (po_iload 2 163))), (163, (.inl (po_dup2 164))), (164, (.inl (po_iald 165))), (165, (.inl (po_aload 0 166))), (166, (.inl (po_get 14 34 169))), (169, (.inl (po_iload 2 170))), (170, (.inl (po_iald 171))), (171, (.inl (po_iload 1 172))), (172, (.inl (po_i2 (fun x y => x >>> (y &&& 31)) 173))), (173, (.inl (po_push 1 174))), (174, (.inl (po_i2 (fun x y => x &&& y) 175))), (175, (.inl (po_push 1 176))), (176, (.inl (po_if2 (fun x y => !decide (x = y)) 188 179))), (179, (.inl (po_aload 0 180))), (180, (.inl (po_get 14 34 183))), (183, (.inl (po_iload 1 184))), (184, (.inl (po_iald 185))), (185, (.inl (po_goto 189))), (188, (.inl (po_push 0 189))), (189, (.inl (po_i2 (fun x y => x ||| y) 190))), (190, (.inl (po_iast 191))), (191, (.inl (po_iinc 2 1 194))), (194, (.inl (po_goto 152))), (197, (.inl (po_iinc 1 1 200))), (200, (.inl (po_goto 144))), (203, (.inl (po_push 1 204))), (204, (.inl (po_aload 0 205))), (205, (.inl (po_get 14 8 208))), (208, (.inl (po_i2 (fun x y => x <<< (y &&& 31)) 209))), (209, (.inl (po_push 1 210))), (210, (.inl (po_i2 (fun x y => x - y) 211))), (211, (.inl (po_aload 0 212))), (212, (.inl (po_cv 35 0 14 3 215))), (215, (.inl (po_push (-1) 216))), (216, (.inl (po_i2 (fun x y => x ^^^ y) 217))), (217, (.inl (po_i2 (fun x y => x &&& y) 218))), (218, (.inl (po_istore 1 219))), (219, (.inl (po_push 0 220))), (220, (.inl (po_istore 2 221))), (221, (.inl (po_push 0 222))), (222, (.inl (po_istore 3 223))), (223, (.inl (po_iload 3 224))), (224, (.inl (po_aload 0 225))), (225, (.inl (po_get 14 8 228))), (228, (.inl (po_if2 (fun x y => decide (y ≤ x)) 275 231))), (275, (.inl (po_iload 2 276))), (276, (.inr (re_i)))]
set_option maxRecDepth 100000 in
set_option maxHeartbeats 4000000 in
theorem qs_36 : pr_aS pr_ms m_36 [(0, (.inl (po_push 0 1))), (1, (.inl (po_istore 1 2))), (2, (.inl (po_iload 1 3))), (3, (.inl (po_push 6 5))), (5, (.inl (po_if2 (fun x y => decide (y ≤ x)) 23 8))), (8, (.inl (po_aload 0 9))), (9, (.inl (po_get 14 34 12))), (12, (.inl (po_iload 1 13))), (13, (.inl (po_push 1 14))), (14, (.inl (po_iload 1 15))), (15, (.inl (po_i2 (fun x y => x <<< (y &&& 31)) 16))), (16, (.inl (po_iast 17))), (17, (.inl (po_iinc 1 1 20))), (20, (.inl (po_goto 2))), (23, (.inl (po_push 0 24))), (24, (.inl (po_istore 1 25))), (25, (.inl (po_iload 1 26))), (26, (.inl (po_aload 0 27))), (27, (.inl (po_get 14 20 30))), (30, (.inl (po_get 11 0 33))), (33, (.inl (po_if2 (fun x y => decide (y ≤ x)) 142 36))), (142, (.inl (po_push 0 143))), (143, (.inl (po_istore 1 144))), (144, (.inl (po_iload 1 145))), (145, (.inl (po_push 6 147))), (147, (.inl (po_if2 (fun x y => decide (y ≤ x)) 203 150))), (150, (.inl (po_push 0 151))), (151, (.inl (po_istore 2 152))), (152, (.inl (po_iload 2 153))), (153, (.inl (po_push 6 155))), (155, (.inl (po_if2 (fun x y => decide (y ≤ x)) 197 158))), (158, (.inl (po_aload 0 159))), (159, (.inl (po_get 14 34 162))), (162, (.inl (po_iload 2 163))), (163, (.inl (po_dup2 164))), (164, (.inl (po_iald 165))), (165, (.inl (po_aload 0 166))), (166, (.inl (po_get 14 34 169))), (169, (.inl (po_iload 2 170))), (170, (.inl (po_iald 171))), (171, (.inl (po_iload 1 172))), (172, (.inl (po_i2 (fun x y => x >>> (y &&& 31)) 173))), (173, (.inl (po_push 1 174))), (174, (.inl (po_i2 (fun x y => x &&& y) 175))), (175, (.inl (po_push 1 176))), (176, (.inl (po_if2 (fun x y => !decide (x = y)) 188 179))), (179, (.inl (po_aload 0 180))), (180, (.inl (po_get 14 34 183))), (183, (.inl (po_iload 1 184))), (184, (.inl (po_iald 185))), (185, (.inl (po_goto 189))), (188, (.inl (po_push 0 189))), (189, (.inl (po_i2 (fun x y => x ||| y) 190))), (190, (.inl (po_iast 191))), (191, (.inl (po_iinc 2 1 194))), (194, (.inl (po_goto 152))), (197, (.inl (po_iinc 1 1 200))), (200, (.inl (po_goto 144))), (203, (.inl (po_push 1 204))), (204, (.inl (po_aload 0 205))), (205, (.inl (po_get 14 8 208))), (208, (.inl (po_i2 (fun x y => x <<< (y &&& 31)) 209))), (209, (.inl (po_push 1 210))), (210, (.inl (po_i2 (fun x y => x - y) 211))), (211, (.inl (po_aload 0 212))), (212, (.inl (po_cv 35 0 14 3 215))), (215, (.inl (po_push (-1) 216))), (216, (.inl (po_i2 (fun x y => x ^^^ y) 217))), (217, (.inl (po_i2 (fun x y => x &&& y) 218))), (218, (.inl (po_istore 1 219))), (219, (.inl (po_push 0 220))), (220, (.inl (po_istore 2 221))), (221, (.inl (po_push 0 222))), (222, (.inl (po_istore 3 223))), (223, (.inl (po_iload 3 224))), (224, (.inl (po_aload 0 225))), (225, (.inl (po_get 14 8 228))), (228, (.inl (po_if2 (fun x y => decide (y ≤ x)) 275 231))), (275, (.inl (po_iload 2 276))), (276, (.inr (re_i)))] := pr_aS_c (pr_eI (os_iconst dX14_nextSet_0 (by decide +kernel))) (pr_aS_c (pr_eI (os_istore_n (q := 1) dX14_nextSet_1 (by decide))) (pr_aS_c (pr_eI (os_iload_n (q := 1) dX14_nextSet_2)) (pr_aS_c (pr_eI (os_bipush dX14_nextSet_3 (by decide +kernel))) (pr_aS_c (pr_eI (os_icmp_ge dX14_nextSet_5 (by decide))) (pr_aS_c (pr_eI (os_aload_n (q := 0) dX14_nextSet_8)) (pr_aS_c (pr_eI (os_get (kf := 34) dX14_nextSet_9 cf_14 (by decide) wd_162)) (pr_aS_c (pr_eI (os_iload_n (q := 1) dX14_nextSet_12)) (pr_aS_c (pr_eI (os_iconst dX14_nextSet_13 (by decide +kernel))) (pr_aS_c (pr_eI (os_iload_n (q := 1) dX14_nextSet_14)) (pr_aS_c (pr_eI (os_ishl dX14_nextSet_15)) (pr_aS_c (pr_eI (os_iast dX14_nextSet_16)) (pr_aS_c (pr_eI (os_iinc dX14_nextSet_17 (by decide +kernel) (by decide))) (pr_aS_c (pr_eI (os_goto dX14_nextSet_20 (by decide))) (pr_aS_c (pr_eI (os_iconst dX14_nextSet_23 (by decide +kernel))) (pr_aS_c (pr_eI (os_istore_n (q := 1) dX14_nextSet_24 (by decide))) (pr_aS_c (pr_eI (os_iload_n (q := 1) dX14_nextSet_25)) (pr_aS_c (pr_eI (os_aload_n (q := 0) dX14_nextSet_26)) (pr_aS_c (pr_eI (os_get (kf := 20) dX14_nextSet_27 cf_14 (by decide) wd_154)) (pr_aS_c (pr_eI (os_get (kf := 0) dX14_nextSet_30 cf_11 (by decide) wd_217)) (pr_aS_c (pr_eI (os_icmp_ge dX14_nextSet_33 (by decide))) (pr_aS_c (pr_eI (os_iconst dX14_nextSet_142 (by decide +kernel))) (pr_aS_c (pr_eI (os_istore_n (q := 1) dX14_nextSet_143 (by decide))) (pr_aS_c (pr_eI (os_iload_n (q := 1) dX14_nextSet_144)) (pr_aS_c (pr_eI (os_bipush dX14_nextSet_145 (by decide +kernel))) (pr_aS_c (pr_eI (os_icmp_ge dX14_nextSet_147 (by decide))) (pr_aS_c (pr_eI (os_iconst dX14_nextSet_150 (by decide +kernel))) (pr_aS_c (pr_eI (os_istore_n (q := 2) dX14_nextSet_151 (by decide))) (pr_aS_c (pr_eI (os_iload_n (q := 2) dX14_nextSet_152)) (pr_aS_c (pr_eI (os_bipush dX14_nextSet_153 (by decide +kernel))) (pr_aS_c (pr_eI (os_icmp_ge dX14_nextSet_155 (by decide))) (pr_aS_c (pr_eI (os_aload_n (q := 0) dX14_nextSet_158)) (pr_aS_c (pr_eI (os_get (kf := 34) dX14_nextSet_159 cf_14 (by decide) wd_162)) (pr_aS_c (pr_eI (os_iload_n (q := 2) dX14_nextSet_162)) (pr_aS_c (pr_eI (os_dup2 dX14_nextSet_163)) (pr_aS_c (pr_eI (os_iald dX14_nextSet_164)) (pr_aS_c (pr_eI (os_aload_n (q := 0) dX14_nextSet_165)) (pr_aS_c (pr_eI (os_get (kf := 34) dX14_nextSet_166 cf_14 (by decide) wd_162)) (pr_aS_c (pr_eI (os_iload_n (q := 2) dX14_nextSet_169)) (pr_aS_c (pr_eI (os_iald dX14_nextSet_170)) (pr_aS_c (pr_eI (os_iload_n (q := 1) dX14_nextSet_171)) (pr_aS_c (pr_eI (os_ishr dX14_nextSet_172)) (pr_aS_c (pr_eI (os_iconst dX14_nextSet_173 (by decide +kernel))) (pr_aS_c (pr_eI (os_iand dX14_nextSet_174)) (pr_aS_c (pr_eI (os_iconst dX14_nextSet_175 (by decide +kernel))) (pr_aS_c (pr_eI (os_icmp_ne dX14_nextSet_176 (by decide))) (pr_aS_c (pr_eI (os_aload_n (q := 0) dX14_nextSet_179)) (pr_aS_c (pr_eI (os_get (kf := 34) dX14_nextSet_180 cf_14 (by decide) wd_162)) (pr_aS_c (pr_eI (os_iload_n (q := 1) dX14_nextSet_183)) (pr_aS_c (pr_eI (os_iald dX14_nextSet_184)) (pr_aS_c (pr_eI (os_goto dX14_nextSet_185 (by decide))) (pr_aS_c (pr_eI (os_iconst dX14_nextSet_188 (by decide +kernel))) (pr_aS_c (pr_eI (os_ior dX14_nextSet_189)) (pr_aS_c (pr_eI (os_iast dX14_nextSet_190)) (pr_aS_c (pr_eI (os_iinc dX14_nextSet_191 (by decide +kernel) (by decide))) (pr_aS_c (pr_eI (os_goto dX14_nextSet_194 (by decide))) (pr_aS_c (pr_eI (os_iinc dX14_nextSet_197 (by decide +kernel) (by decide))) (pr_aS_c (pr_eI (os_goto dX14_nextSet_200 (by decide))) (pr_aS_c (pr_eI (os_iconst dX14_nextSet_203 (by decide +kernel))) (pr_aS_c (pr_eI (os_aload_n (q := 0) dX14_nextSet_204)) (pr_aS_c (pr_eI (os_get (kf := 8) dX14_nextSet_205 cf_14 (by decide) wd_216)) (pr_aS_c (pr_eI (os_ishl dX14_nextSet_208)) (pr_aS_c (pr_eI (os_iconst dX14_nextSet_209 (by decide +kernel))) (pr_aS_c (pr_eI (os_isub dX14_nextSet_210)) (pr_aS_c (pr_eI (os_aload_n (q := 0) dX14_nextSet_211)) (pr_aS_c (pr_eI (os_cv dX14_nextSet_212 (k := 35) rfl rfl cal_35 wd_249 wd_251 wd_250 rfl)) (pr_aS_c (pr_eI (os_iconst dX14_nextSet_215 (by decide +kernel))) (pr_aS_c (pr_eI (os_ixor dX14_nextSet_216)) (pr_aS_c (pr_eI (os_iand dX14_nextSet_217)) (pr_aS_c (pr_eI (os_istore_n (q := 1) dX14_nextSet_218 (by decide))) (pr_aS_c (pr_eI (os_iconst dX14_nextSet_219 (by decide +kernel))) (pr_aS_c (pr_eI (os_istore_n (q := 2) dX14_nextSet_220 (by decide))) (pr_aS_c (pr_eI (os_iconst dX14_nextSet_221 (by decide +kernel))) (pr_aS_c (pr_eI (os_istore_n (q := 3) dX14_nextSet_222 (by decide))) (pr_aS_c (pr_eI (os_iload_n (q := 3) dX14_nextSet_223)) (pr_aS_c (pr_eI (os_aload_n (q := 0) dX14_nextSet_224)) (pr_aS_c (pr_eI (os_get (kf := 8) dX14_nextSet_225 cf_14 (by decide) wd_216)) (pr_aS_c (pr_eI (os_icmp_ge dX14_nextSet_228 (by decide))) (pr_aS_c (pr_eI (os_iload_n (q := 2) dX14_nextSet_275)) (pr_aS_c (pr_eR (rs_i dX14_nextSet_276 rfl)) trivial)))))))))))))))))))))))))))))))))))))))))))))))))))))))))))))))))))))))))))))))
