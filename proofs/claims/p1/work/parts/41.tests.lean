/-! each call on the two fresh objects, run by the kernel -/
noncomputable def h2 : pr_H := pr_hp rM ++ [.inl (1, 1, .inr (.inl (fun _ => 0)))]
noncomputable def pr_isY (h : pr_H) : Bool := match pr_at h 84 with
  | some (.inr (c, _)) => Nat.beq c 14
  | _ => false
theorem pr_isY_ok {h : pr_H} (hc : pr_isY h = true) : ∃ fs : List Value, h[84]? = some (.inr (14, fs)) := by
  unfold pr_isY at hc
  split at hc
  · rename_i c fs hk
    rw [pr_at_eq] at hk
    exact ⟨fs, by rw [hk, Nat.eq_of_beq_eq_true hc]⟩
  · cases hc
noncomputable def pr_tst (c1 c2 : pr_Co) (as : List Value) : Bool := match pr_run pr_cs 3000 12 c1 c1 (lv_args 0 (.ref 0 :: as)) [] h2 with
  | some (some (.int x), h3) => match pr_run pr_cs 3000 12 c2 c2 (lv_args 0 (.ref 84 :: as)) [] h3 with
    | some (some (.int y), h4) => decide (x = y) && (pr_isY h3 && (Nat.ble (pr_len h4) 1000 && Nat.ble (pr_sz h4) 3000000))
    | _ => false
  | _ => false
theorem pr_tst_ok {c1 c2 : pr_Co} {as : List Value} (h : pr_tst c1 c2 as = true) {k1 k2 : Nat} {m1 m2 : pr_M} (hk1 : pr_ms[k1]? = some m1) (hc1 : pr_cs[k1]? = some c1) (hk2 : pr_ms[k2]? = some m2) (hc2 : pr_cs[k2]? = some c2) (hl1 : (lg_sl (.ref 0 :: as)).length ≤ m1.2.2.1) (hl2 : (lg_sl (.ref 84 :: as)).length ≤ m2.2.2.1) :
    ∃ (x : Int32) (h3 h4 : pr_H), (∃ fs : List Value, h3[84]? = some (.inr (14, fs))) ∧ pr_Met 13 m1 (.ref 0 :: as) h2 (some (.int x)) h3 ∧ pr_Met 13 m2 (.ref 84 :: as) h3 (some (.int x)) h4 ∧ h4.length ≤ 1000 ∧ pr_sz h4 ≤ 3000000 := by
  unfold pr_tst at h
  split at h
  · rename_i x h3 hr1
    split at h
    · rename_i y h4 hr2
      simp only [Bool.and_eq_true, decide_eq_true_eq] at h
      obtain ⟨hxy, hb0, hb1, hb2⟩ := h
      subst hxy
      exact ⟨x, h3, h4, pr_isY_ok hb0, pr_run_met pr_tab hk1 hc1 hl1 hr1, pr_run_met pr_tab hk2 hc2 hl2 hr2, by rw [← pr_len_eq]; exact Nat.le_of_ble_eq_true hb1, Nat.le_of_ble_eq_true hb2⟩
    · cases h
  · cases h
set_option maxRecDepth 100000 in
theorem pr_tests : (pr_tst qc_1 qc_27 [] && (pr_tst qc_2 qc_28 [] && (pr_tst qc_3 qc_40 [.int 0] && (pr_tst qc_3 qc_40 [.int 1] && (pr_tst qc_4 qc_41 [] && (pr_tst qc_5 qc_42 [] && (pr_tst qc_6 qc_43 [] && (pr_tst qc_8 qc_39 [] && (pr_tst qc_9 qc_38 [] && (pr_tst qc_10 qc_45 [] && (pr_tst qc_11 qc_46 [] && (pr_tst qc_7 qc_44 [.int 0] && (pr_tst qc_7 qc_44 [.int 1] && (pr_tst qc_7 qc_44 [.int 2] && (pr_tst qc_7 qc_44 [.int 3] && (pr_tst qc_7 qc_44 [.int 4] && (pr_tst qc_7 qc_44 [.int 5] && pr_tst qc_7 qc_44 [.int 6]))))))))))))))))) = true := by decide +kernel
