/-! all calls but letter(): the answers are the same -/
theorem same_kinds : pr_same m_1 m_27 [] := pr_tst_ok (pr_andl pr_tests) (k1 := 1) (k2 := 27) rfl rfl rfl rfl (Nat.le_of_ble_eq_true rfl) (Nat.le_of_ble_eq_true rfl)
theorem same_fault : pr_same m_2 m_28 [] := pr_tst_ok (pr_andl (pr_andr pr_tests)) (k1 := 2) (k2 := 28) rfl rfl rfl rfl (Nat.le_of_ble_eq_true rfl) (Nat.le_of_ble_eq_true rfl)
theorem same_variable0 : pr_same m_3 m_40 [.int 0] := pr_tst_ok (pr_andl (pr_andr (pr_andr pr_tests))) (k1 := 3) (k2 := 40) rfl rfl rfl rfl (Nat.le_of_ble_eq_true rfl) (Nat.le_of_ble_eq_true rfl)
theorem same_variable1 : pr_same m_3 m_40 [.int 1] := pr_tst_ok (pr_andl (pr_andr (pr_andr (pr_andr pr_tests)))) (k1 := 3) (k2 := 40) rfl rfl rfl rfl (Nat.le_of_ble_eq_true rfl) (Nat.le_of_ble_eq_true rfl)
theorem same_fresh : pr_same m_4 m_41 [] := pr_tst_ok (pr_andl (pr_andr (pr_andr (pr_andr (pr_andr pr_tests))))) (k1 := 4) (k2 := 41) rfl rfl rfl rfl (Nat.le_of_ble_eq_true rfl) (Nat.le_of_ble_eq_true rfl)
theorem same_bound : pr_same m_5 m_42 [] := pr_tst_ok (pr_andl (pr_andr (pr_andr (pr_andr (pr_andr (pr_andr pr_tests)))))) (k1 := 5) (k2 := 42) rfl rfl rfl rfl (Nat.le_of_ble_eq_true rfl) (Nat.le_of_ble_eq_true rfl)
theorem same_close : pr_same m_6 m_43 [] := pr_tst_ok (pr_andl (pr_andr (pr_andr (pr_andr (pr_andr (pr_andr (pr_andr pr_tests))))))) (k1 := 6) (k2 := 43) rfl rfl rfl rfl (Nat.le_of_ble_eq_true rfl) (Nat.le_of_ble_eq_true rfl)
theorem same_next : pr_same m_8 m_39 [] := pr_tst_ok (pr_andl (pr_andr (pr_andr (pr_andr (pr_andr (pr_andr (pr_andr (pr_andr pr_tests)))))))) (k1 := 8) (k2 := 39) rfl rfl rfl rfl (Nat.le_of_ble_eq_true rfl) (Nat.le_of_ble_eq_true rfl)
theorem same_step : pr_same m_9 m_38 [] := pr_tst_ok (pr_andl (pr_andr (pr_andr (pr_andr (pr_andr (pr_andr (pr_andr (pr_andr (pr_andr pr_tests))))))))) (k1 := 9) (k2 := 38) rfl rfl rfl rfl (Nat.le_of_ble_eq_true rfl) (Nat.le_of_ble_eq_true rfl)
theorem same_join : pr_same m_10 m_45 [] := pr_tst_ok (pr_andl (pr_andr (pr_andr (pr_andr (pr_andr (pr_andr (pr_andr (pr_andr (pr_andr (pr_andr pr_tests)))))))))) (k1 := 10) (k2 := 45) rfl rfl rfl rfl (Nat.le_of_ble_eq_true rfl) (Nat.le_of_ble_eq_true rfl)
theorem same_below : pr_same m_11 m_46 [] := pr_tst_ok (pr_andl (pr_andr (pr_andr (pr_andr (pr_andr (pr_andr (pr_andr (pr_andr (pr_andr (pr_andr (pr_andr pr_tests))))))))))) (k1 := 11) (k2 := 46) rfl rfl rfl rfl (Nat.le_of_ble_eq_true rfl) (Nat.le_of_ble_eq_true rfl)
theorem same_toldI {i : Int32} (h : pr_tst qc_7 qc_44 [.int i] = true) : pr_same m_7 m_44 [.int i] := pr_tst_ok h (k1 := 7) (k2 := 44) rfl rfl rfl rfl (Nat.le_of_ble_eq_true rfl) (Nat.le_of_ble_eq_true rfl)
theorem same_told (n : Int32) : pr_same m_7 m_44 [.int n] := by
  by_cases hr : n.toInt < 0 ∨ 6 < n.toInt
  · obtain ⟨fY, y0, y1, y2⟩ := h2_Y
    refine ⟨-2, h2, h2.set 84 (.inr (14, fY.set 0 (.int 0))), ⟨fY, y0⟩, ?_, ?_, by rw [List.length_set, h2_len]; decide, ?_⟩
    · refine pr_enter (by decide +kernel) (Nat.le_of_ble_eq_true rfl) ?_
      show pr_R 13 _ 0 [(0, .ref 0), (1, .int n)] [] h2 _ _
      refine pr_iload_n (q := 1) dX10_told_0 rfl ?_
      refine pr_tabOut (tgt := 97) dX10_told_1 hr (by decide) ?_
      refine pr_bipush dX10_told_97 ?_
      exact pr_ireturn dX10_told_99 rfl
    · refine pr_enter (by decide +kernel) (Nat.le_of_ble_eq_true rfl) ?_
      show pr_R 13 _ 0 [(0, .ref 84), (1, .int n)] [] h2 _ _
      refine pr_aload_n (q := 0) dX14_told_0 rfl ?_
      refine pr_iconst dX14_told_1 ?_
      refine pr_putf (kf := 0) dX14_told_2 cf_14 (by decide) wd_206 rfl y0 (by omega) (fun b => ⟨rfl, rfl⟩) ?_
      refine pr_iload_n (q := 1) dX14_told_5 rfl ?_
      refine pr_tabOut (tgt := 92) dX14_told_6 hr (by decide) ?_
      refine pr_bipush dX14_told_92 ?_
      exact pr_ireturn dX14_told_94 rfl
    · rw [pr_sz_set y0 (by simp [pr_s])]
      exact Nat.le_trans h2_sz (by decide)
  · have h1 : ¬ n < 0 := fun q => hr (Or.inl (by simpa using Int32.lt_iff_toInt_lt.mp q))
    have h2 : n ≤ 6 := Int32.le_iff_toInt_le.mpr (by
      have : ¬ (6 : Int) < n.toInt := fun q => hr (Or.inr q)
      have e : (6 : Int32).toInt = 6 := by decide +kernel
      omega)
    obtain ⟨j, hj, rfl⟩ := nI_of2 (M := 6) (n := 6) (by decide +kernel) h1 h2
    match j, hj with
    | 0, _ => exact same_toldI (pr_andl (pr_andr (pr_andr (pr_andr (pr_andr (pr_andr (pr_andr (pr_andr (pr_andr (pr_andr (pr_andr (pr_andr pr_tests))))))))))))
    | 1, _ => exact same_toldI (pr_andl (pr_andr (pr_andr (pr_andr (pr_andr (pr_andr (pr_andr (pr_andr (pr_andr (pr_andr (pr_andr (pr_andr (pr_andr pr_tests)))))))))))))
    | 2, _ => exact same_toldI (pr_andl (pr_andr (pr_andr (pr_andr (pr_andr (pr_andr (pr_andr (pr_andr (pr_andr (pr_andr (pr_andr (pr_andr (pr_andr (pr_andr pr_tests))))))))))))))
    | 3, _ => exact same_toldI (pr_andl (pr_andr (pr_andr (pr_andr (pr_andr (pr_andr (pr_andr (pr_andr (pr_andr (pr_andr (pr_andr (pr_andr (pr_andr (pr_andr (pr_andr pr_tests)))))))))))))))
    | 4, _ => exact same_toldI (pr_andl (pr_andr (pr_andr (pr_andr (pr_andr (pr_andr (pr_andr (pr_andr (pr_andr (pr_andr (pr_andr (pr_andr (pr_andr (pr_andr (pr_andr (pr_andr pr_tests))))))))))))))))
    | 5, _ => exact same_toldI (pr_andl (pr_andr (pr_andr (pr_andr (pr_andr (pr_andr (pr_andr (pr_andr (pr_andr (pr_andr (pr_andr (pr_andr (pr_andr (pr_andr (pr_andr (pr_andr (pr_andr pr_tests)))))))))))))))))
    | 6, _ => exact same_toldI (pr_andr (pr_andr (pr_andr (pr_andr (pr_andr (pr_andr (pr_andr (pr_andr (pr_andr (pr_andr (pr_andr (pr_andr (pr_andr (pr_andr (pr_andr (pr_andr (pr_andr pr_tests)))))))))))))))))
    | j + 7, hj => exact absurd hj (by omega)
/-- an exception's cell, of which nothing is kept -/
def pr_junk : pr_C := .inr (999, [.null, .null, .null, .null, .null, .null])
/-- letter() of the reference, with nothing written: it says that it throws -/
theorem letterY (n : Int32) : ∃ h4 : pr_H, (∃ fs : List Value, (h2 ++ [pr_junk])[84]? = some (.inr (14, fs))) ∧ (∃ fs : List Value, h4[84]? = some (.inr (14, fs))) ∧ pr_Met 13 m_Y_letter [.ref 84, .int n] (h2 ++ [pr_junk]) (some (.int 0)) h4 ∧ pr_Met 13 m_Y_thrown [.ref 84] h4 (some (.int 1)) h4 ∧ h4.length ≤ 1000 ∧ pr_sz h4 ≤ 3000000 := by
  obtain ⟨fY, y0, y1, y2⟩ := h2_Y
  have hk : 84 < h2.length := by rw [h2_len]; decide
  have z0 : (h2 ++ [pr_junk])[84]? = some (.inr (14, fY)) := by rw [List.getElem?_append_left hk]; exact y0
  have hk2 : 84 < (h2 ++ [pr_junk]).length := by rw [List.length_append]; omega
  have g0 : ((h2 ++ [pr_junk]).set 84 (.inr (14, fY.set 0 (.int 1))))[84]? = some (.inr (14, fY.set 0 (.int 1))) := List.getElem?_set_self hk2
  have gc : (fY.set 0 (.int 1))[0]? = some (.int 1) := List.getElem?_set_self (by omega)
  refine ⟨(h2 ++ [pr_junk]).set 84 (.inr (14, fY.set 0 (.int 1))), ⟨_, z0⟩, ⟨_, g0⟩, ?_, ?_, by rw [List.length_set, List.length_append, h2_len]; decide, ?_⟩
  · refine pr_enter (by decide +kernel) (Nat.le_of_ble_eq_true rfl) ?_
    show pr_R 13 _ 0 [(0, .ref 84), (1, .int n)] [] _ _ _
    have tail : pr_R 13 m_Y_letter 17 [(0, .ref 84), (1, .int n)] [.ref 84] (h2 ++ [pr_junk]) (some (.int 0)) ((h2 ++ [pr_junk]).set 84 (.inr (14, fY.set 0 (.int 1)))) := by
      refine pr_iconst dX14_letter_17 ?_
      refine pr_putf (kf := 0) dX14_letter_18 cf_14 (by decide) wd_206 rfl z0 (by omega) (fun b => ⟨rfl, rfl⟩) ?_
      refine pr_aload_n (q := 0) dX14_letter_21 rfl ?_
      refine pr_getf (kf := 0) dX14_letter_22 cf_14 (by decide) wd_206 g0 gc ?_
      refine pr_if_ne (tgt := 37) dX14_letter_25 (by decide) (fun _ => ?_) (fun c => absurd c (by decide +kernel))
      refine pr_iconst dX14_letter_37 ?_
      exact pr_ireturn dX14_letter_38 rfl
    refine pr_aload_n (q := 0) dX14_letter_0 rfl ?_
    refine pr_iload_n (q := 1) dX14_letter_1 rfl ?_
    refine pr_if_lt (tgt := 17) dX14_letter_2 (by decide) (fun _ => tail) (fun c1 => ?_)
    refine pr_iload_n (q := 1) dX14_letter_5 rfl ?_
    refine pr_aload_n (q := 0) dX14_letter_6 rfl ?_
    refine pr_getf (kf := 30) dX14_letter_7 cf_14 (by decide) wd_761 z0 (y2 (30, .int 0) (by simp)) ?_
    refine pr_icmp_ge (tgt := 17) dX14_letter_10 (by decide) (fun _ => tail) (fun c2 => absurd (Int32.not_lt.mp c1) c2)
  · refine pr_enter (by decide +kernel) (Nat.le_of_ble_eq_true rfl) ?_
    show pr_R 13 _ 0 [(0, .ref 84)] [] _ _ _
    refine pr_aload_n (q := 0) dX14_thrown_0 rfl ?_
    refine pr_getf (kf := 0) dX14_thrown_1 cf_14 (by decide) wd_206 g0 gc ?_
    exact pr_ireturn dX14_thrown_4 rfl
  · rw [pr_sz_set z0 (by simp [pr_s]), pr_sz_push]
    have hz := h2_sz
    have e6 : pr_s pr_junk = 6 := rfl
    rw [e6]
    generalize pr_sz h2 = z at hz ⊢
    omega
