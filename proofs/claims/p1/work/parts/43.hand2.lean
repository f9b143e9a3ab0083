/-! the answers of the calls with arguments are the same -/
/-- what is wanted of a call: both answer x -/
def pr_same (m1 m2 : pr_M) (as : List Value) : Prop := ∃ (x : Int32) (h3 h4 : pr_H), (∃ fs : List Value, h3[84]? = some (.inr (14, fs))) ∧ pr_Met 13 m1 (.ref 0 :: as) h2 (some (.int x)) h3 ∧ pr_Met 13 m2 (.ref 84 :: as) h3 (some (.int x)) h4 ∧ h4.length ≤ 1000 ∧ pr_sz h4 ≤ 3000000
theorem h2_X : ∃ fs : List Value, h2[0]? = some (.inr (10, fs)) ∧ fs.length = 17 ∧ ∀ q ∈ [(0, Value.ref 1), (1, .ref 3), (7, .ref 31), (13, .int 0)], fs[q.1]? = some q.2 := pr_fcs_ok (pr_andl h2_facts)
theorem h2_T : ∃ fs : List Value, h2[1]? = some (.inr (7, fs)) ∧ fs.length = 2 ∧ ∀ q ∈ [(0, Value.ref 2), (1, .int 0)], fs[q.1]? = some q.2 := pr_fcs_ok (pr_andl (pr_andr h2_facts))
theorem h2_U : ∃ fs : List Value, h2[3]? = some (.inr (7, fs)) ∧ fs.length = 2 ∧ ∀ q ∈ [(1, Value.int 0)], fs[q.1]? = some q.2 := pr_fcs_ok (pr_andl (pr_andr (pr_andr h2_facts)))
theorem h2_C : ∃ f : Nat → Int32, h2[2]? = some (.inl (0, 600, .inl f)) := pr_ac_ok (pr_andl (pr_andr (pr_andr (pr_andr h2_facts))))
theorem h2_B : ∃ fs : List Value, h2[31]? = some (.inr (0, fs)) ∧ fs.length = 9 ∧ ∀ q ∈ [(2, Value.ref 34)], fs[q.1]? = some q.2 := pr_fcs_ok (pr_andl (pr_andr (pr_andr (pr_andr (pr_andr h2_facts)))))
theorem h2_S : ∃ fs : List Value, h2[34]? = some (.inr (7, fs)) ∧ fs.length = 2 ∧ ∀ q ∈ [(1, Value.int 0)], fs[q.1]? = some q.2 := pr_fcs_ok (pr_andl (pr_andr (pr_andr (pr_andr (pr_andr (pr_andr h2_facts))))))
theorem h2_Y : ∃ fs : List Value, h2[84]? = some (.inr (14, fs)) ∧ fs.length = 38 ∧ ∀ q ∈ [(0, Value.int 0), (8, .int 0), (9, .ref 119), (10, .int 0), (20, .ref 121), (30, .int 0)], fs[q.1]? = some q.2 := pr_fcs_ok (pr_andl (pr_andr (pr_andr (pr_andr (pr_andr (pr_andr (pr_andr h2_facts)))))))
theorem h2_P : ∃ f : Nat → Int32, h2[119]? = some (.inl (3, 600, .inl f)) := pr_ac_ok (pr_andl (pr_andr (pr_andr (pr_andr (pr_andr (pr_andr (pr_andr (pr_andr h2_facts))))))))
theorem h2_Q : ∃ fs : List Value, h2[121]? = some (.inr (11, fs)) ∧ fs.length = 4 ∧ ∀ q ∈ [(0, Value.int 0)], fs[q.1]? = some q.2 := pr_fcs_ok (pr_andl (pr_andr (pr_andr (pr_andr (pr_andr (pr_andr (pr_andr (pr_andr (pr_andr h2_facts)))))))))
/-- feed() of the reference -/
theorem feedY_bad {d : Nat} {w : Int64} {n : Int32} {h : pr_H} {fs : List Value} (h0 : h[84]? = some (.inr (14, fs))) (hl : fs.length = 38) (hn : ¬ (1 ≤ n ∧ n ≤ 8)) : pr_Met (d + 2) m_Y_feed [.ref 84, .long w, .int n] h (some (.int (-2))) (h.set 84 (.inr (14, fs.set 0 (.int 0)))) := by
  refine pr_enter (by decide +kernel) (Nat.le_of_ble_eq_true rfl) ?_
  show pr_R (d + 2) _ 0 [(0, .ref 84), (1, .long w), (3, .int n)] [] h _ _
  refine pr_aload_n (q := 0) dX14_feed_0 rfl ?_
  refine pr_iconst dX14_feed_1 ?_
  refine pr_putf (kf := 0) dX14_feed_2 cf_14 (by decide) wd_206 rfl h0 (by omega) (fun b => ⟨rfl, rfl⟩) ?_
  refine pr_iload_n (q := 3) dX14_feed_5 rfl ?_
  refine pr_iconst dX14_feed_6 ?_
  refine pr_icmp_lt (tgt := 16) dX14_feed_7 (by decide) (fun _ => ?_) (fun c1 => ?_)
  · refine pr_bipush dX14_feed_16 ?_
    exact pr_ireturn dX14_feed_18 rfl
  · refine pr_iload_n (q := 3) dX14_feed_10 rfl ?_
    refine pr_bipush dX14_feed_11 ?_
    refine pr_icmp_le (tgt := 19) dX14_feed_13 (by decide) (fun c2 => ?_) (fun _ => ?_)
    · exact absurd ⟨Int32.not_lt.mp c1, c2⟩ hn
    · refine pr_bipush dX14_feed_16 ?_
      exact pr_ireturn dX14_feed_18 rfl
theorem feedY_ok {d m : Nat} {w : Int64} {h : pr_H} {fs : List Value} {g : Nat → Int32} (h0 : h[84]? = some (.inr (14, fs))) (hl : fs.length = 38) (h9 : fs[9]? = some (.ref 119)) (h10 : fs[10]? = some (.int 0)) (ht : h[119]? = some (.inl (3, 600, .inl g))) (hm0 : 1 ≤ m) (hm : m ≤ 8) :
    ∃ h' : pr_H, h'.length = h.length ∧ pr_sz h' = pr_sz h ∧ pr_Met (d + 2) m_Y_feed [.ref 84, .long w, .int (nI m)] h (some (.int (nI m))) h' := by
  have k1 := (List.getElem?_eq_some_iff.mp h0).1
  have g0 : (h.set 84 (.inr (14, fs.set 0 (.int 0))))[84]? = some (.inr (14, fs.set 0 (.int 0))) := List.getElem?_set_self k1
  have g9 : (fs.set 0 (.int 0))[9]? = some (.ref 119) := by rw [List.getElem?_set_ne (by decide)]; exact h9
  have g10 : (fs.set 0 (.int 0))[10]? = some (.int 0) := by rw [List.getElem?_set_ne (by decide)]; exact h10
  obtain ⟨h', q1, q2, q4⟩ := feedY_loop (d := d) (w := w) (n := nI m) m 0 (h.set 84 (.inr (14, fs.set 0 (.int 0)))) (fs.set 0 (.int 0)) g g0 (by rw [List.length_set]; exact hl) g9 g10 (by rw [List.getElem?_set_ne (by decide)]; exact ht) (by omega)
  refine ⟨h', by rw [q1]; simp, by rw [q2, pr_sz_set h0 (by simp [pr_s])], ?_⟩
  rw [Nat.zero_add] at q4
  refine pr_enter (by decide +kernel) (Nat.le_of_ble_eq_true rfl) ?_
  show pr_R (d + 2) _ 0 [(0, .ref 84), (1, .long w), (3, .int (nI m))] [] h _ _
  refine pr_aload_n (q := 0) dX14_feed_0 rfl ?_
  refine pr_iconst dX14_feed_1 ?_
  refine pr_putf (kf := 0) dX14_feed_2 cf_14 (by decide) wd_206 rfl h0 (by omega) (fun b => ⟨rfl, rfl⟩) ?_
  refine pr_iload_n (q := 3) dX14_feed_5 rfl ?_
  refine pr_iconst dX14_feed_6 ?_
  refine pr_icmp_lt (tgt := 16) dX14_feed_7 (by decide) (fun c1 => absurd (show nI m < nI 1 from c1) (nI_nlt hm0 (by omega))) (fun c1 => ?_)
  refine pr_iload_n (q := 3) dX14_feed_10 rfl ?_
  refine pr_bipush dX14_feed_11 ?_
  refine pr_icmp_le (tgt := 19) dX14_feed_13 (by decide) (fun c2 => ?_) (fun c2 => absurd (show nI m ≤ nI 8 from nI_le hm (by decide)) c2)
  refine pr_aload_n (q := 0) dX14_feed_19 rfl ?_
  refine pr_getf (kf := 10) dX14_feed_20 cf_14 (by decide) wd_185 g0 g10 ?_
  refine pr_iload_n (q := 3) dX14_feed_23 rfl ?_
  refine pr_iadd dX14_feed_24 ?_
  refine pr_sipush dX14_feed_25 ?_
  refine pr_icmp_le (tgt := 34) dX14_feed_28 (by decide) (fun _ => ?_) (fun c3 => absurd (show (0 : Int32) + nI m ≤ nI 600 by rw [Int32.zero_add]; exact nI_le (by omega) (by decide)) c3)
  refine pr_iload_n (q := 3) dX14_feed_34 rfl ?_
  refine pr_iconst dX14_feed_35 ?_
  refine pr_isub dX14_feed_36 ?_
  refine pr_istore (i := 4) dX14_feed_37 (by decide) ?_
  exact q4
theorem same_feed (w : Int64) (n : Int32) : pr_same m_X_feed m_Y_feed [.long w, .int n] := by
  obtain ⟨fX, x0, x1, x2⟩ := h2_X
  obtain ⟨fT, t0, t1, t2⟩ := h2_T
  obtain ⟨fC, c0⟩ := h2_C
  obtain ⟨fY, y0, y1, y2⟩ := h2_Y
  obtain ⟨fP, p0⟩ := h2_P
  by_cases hn : 1 ≤ n ∧ n ≤ 8
  · obtain ⟨m, hm, rfl⟩ := nI_of2 (M := 8) (n := 8) (by decide +kernel) (Int32.not_lt.mpr (Int32.le_trans (by decide +kernel) hn.1)) hn.2
    have hm1 : 1 ≤ m := by
      rcases Nat.lt_or_ge m 1 with q | q
      · exact absurd hn.1 (by rw [show m = 0 by omega]; decide +kernel)
      · exact q
    obtain ⟨h3, a1, a2, a3, a4⟩ := feedX_ok (d := 11) (w := w) (m := m) x0 (x2 (0, .ref 1) (by simp)) t0 t1 (t2 (0, .ref 2) (by simp)) (t2 (1, .int 0) (by simp)) c0 hm1 hm
    obtain ⟨h4, b1, b2, b3⟩ := feedY_ok (d := 11) (w := w) (m := m) (h := h3) (by rw [a3 84 (by decide)]; exact y0) y1 (y2 (9, .ref 119) (by simp)) (y2 (10, .int 0) (by simp)) (by rw [a3 119 (by decide)]; exact p0) hm1 hm
    exact ⟨nI m, h3, h4, ⟨fY, by rw [a3 84 (by decide)]; exact y0⟩, a4, b3, by rw [b1, a1, h2_len]; decide, by rw [b2, a2]; exact Nat.le_trans h2_sz (by decide)⟩
  · refine ⟨-2, h2, _, ⟨fY, y0⟩, feedX_bad (d := 11) hn, feedY_bad (d := 11) y0 y1 hn, by rw [List.length_set, h2_len]; decide, ?_⟩
    rw [pr_sz_set y0 (by simp [pr_s])]
    exact Nat.le_trans h2_sz (by decide)
/-- Bounds.count() -/
theorem c_count {d k ks : Nat} {h : pr_H} {fb fs : List Value} {n : Int32} (hb : h[k]? = some (.inr (0, fb))) (hb2 : fb[2]? = some (.ref ks)) (ho : h[ks]? = some (.inr (7, fs))) (hv : fs[1]? = some (.int n)) : pr_Met (d + 2) m_48 [.ref k] h (some (.int n)) h := by
  refine pr_enter (by decide +kernel) (Nat.le_of_ble_eq_true rfl) ?_
  show pr_R (d + 2) _ 0 [(0, .ref k)] [] h _ _
  refine pr_aload_n (q := 0) dX0_count_0 rfl ?_
  refine pr_getf (kf := 2) dX0_count_1 cf_0 (by decide) wd_273 hb hb2 ?_
  refine pr_callV (as := []) (rest := []) (k := ks) dX0_count_4 cal_79 wd_282 wd_102 wd_101 rfl (ci := 7) rfl ho (by decide) (c_size ho hv) ?_
  exact pr_ireturn dX0_count_7 rfl
theorem same_written (n : Int32) : pr_same m_X_written m_Y_written [.int n] := by
  obtain ⟨fX, x0, x1, x2⟩ := h2_X
  obtain ⟨fB, b0, b1, b2⟩ := h2_B
  obtain ⟨fS, s0, s1, s2⟩ := h2_S
  obtain ⟨fY, y0, y1, y2⟩ := h2_Y
  obtain ⟨fQ, q0, q1, q2⟩ := h2_Q
  refine ⟨-1, h2, h2.set 84 (.inr (14, fY.set 0 (.int 0))), ⟨fY, y0⟩, ?_, ?_, by rw [List.length_set, h2_len]; decide, ?_⟩
  · refine pr_enter (by decide +kernel) (Nat.le_of_ble_eq_true rfl) ?_
    show pr_R 13 _ 0 [(0, .ref 0), (1, .int n)] [] h2 _ _
    refine pr_iload_n (q := 1) dX10_written_0 rfl ?_
    refine pr_if_lt (tgt := 15) dX10_written_1 (by decide) (fun _ => ?_) (fun c1 => ?_)
    · refine pr_iconst dX10_written_15 ?_
      exact pr_ireturn dX10_written_16 rfl
    · refine pr_iload_n (q := 1) dX10_written_4 rfl ?_
      refine pr_aload_n (q := 0) dX10_written_5 rfl ?_
      refine pr_getf (kf := 7) dX10_written_6 cf_10 (by decide) wd_35 x0 (x2 (7, .ref 31) (by simp)) ?_
      refine pr_callV (d := 12) (as := []) (rest := [.int n]) (k := 31) dX10_written_9 cal_48 wd_84 wd_86 wd_85 rfl (ci := 0) rfl b0 (Nat.le_of_ble_eq_true rfl) (c_count (d := 10) b0 (b2 (2, .ref 34) (by simp)) s0 (s2 (1, .int 0) (by simp))) ?_
      refine pr_icmp_lt (tgt := 17) dX10_written_12 (by decide) (fun c2 => absurd c2 c1) (fun _ => ?_)
      refine pr_iconst dX10_written_15 ?_
      exact pr_ireturn dX10_written_16 rfl
  · have g0 : (h2.set 84 (.inr (14, fY.set 0 (.int 0))))[84]? = some (.inr (14, fY.set 0 (.int 0))) := List.getElem?_set_self (by rw [h2_len]; decide)
    refine pr_enter (by decide +kernel) (Nat.le_of_ble_eq_true rfl) ?_
    show pr_R 13 _ 0 [(0, .ref 84), (1, .int n)] [] h2 _ _
    refine pr_aload_n (q := 0) dX14_written_0 rfl ?_
    refine pr_iconst dX14_written_1 ?_
    refine pr_putf (kf := 0) dX14_written_2 cf_14 (by decide) wd_206 rfl y0 (by omega) (fun b => ⟨rfl, rfl⟩) ?_
    refine pr_iload_n (q := 1) dX14_written_5 rfl ?_
    refine pr_if_lt (tgt := 20) dX14_written_6 (by decide) (fun _ => ?_) (fun c1 => ?_)
    · refine pr_iconst dX14_written_20 ?_
      exact pr_ireturn dX14_written_21 rfl
    · refine pr_iload_n (q := 1) dX14_written_9 rfl ?_
      refine pr_aload_n (q := 0) dX14_written_10 rfl ?_
      refine pr_getf (kf := 20) dX14_written_11 cf_14 (by decide) wd_154 g0 (x := .ref 121) (by rw [List.getElem?_set_ne (by decide)]; exact y2 (20, .ref 121) (by simp)) ?_
      refine pr_getf (kf := 0) dX14_written_14 cf_11 (by decide) wd_217 (k := 121) (fs := fQ) (by rw [List.getElem?_set_ne (by decide)]; exact q0) (q2 (0, .int 0) (by simp)) ?_
      refine pr_icmp_lt (tgt := 22) dX14_written_17 (by decide) (fun c2 => absurd c2 c1) (fun _ => ?_)
      refine pr_iconst dX14_written_20 ?_
      exact pr_ireturn dX14_written_21 rfl
  · rw [pr_sz_set y0 (by simp [pr_s])]
    exact Nat.le_trans h2_sz (by decide)
theorem same_solution (n : Int32) : pr_same m_X_solution m_Y_solution [.int n] := by
  obtain ⟨fX, x0, x1, x2⟩ := h2_X
  obtain ⟨fY, y0, y1, y2⟩ := h2_Y
  refine ⟨-1, h2, h2.set 84 (.inr (14, fY.set 0 (.int 0))), ⟨fY, y0⟩, ?_, ?_, by rw [List.length_set, h2_len]; decide, ?_⟩
  · refine pr_enter (by decide +kernel) (Nat.le_of_ble_eq_true rfl) ?_
    show pr_R 13 _ 0 [(0, .ref 0), (1, .int n)] [] h2 _ _
    refine pr_iload_n (q := 1) dX10_solution_0 rfl ?_
    refine pr_if_lt (tgt := 12) dX10_solution_1 (by decide) (fun _ => ?_) (fun c1 => ?_)
    · refine pr_iconst dX10_solution_12 ?_
      exact pr_ireturn dX10_solution_13 rfl
    · refine pr_iload_n (q := 1) dX10_solution_4 rfl ?_
      refine pr_aload_n (q := 0) dX10_solution_5 rfl ?_
      refine pr_getf (kf := 13) dX10_solution_6 cf_10 (by decide) wd_82 x0 (x2 (13, .int 0) (by simp)) ?_
      refine pr_icmp_lt (tgt := 14) dX10_solution_9 (by decide) (fun c2 => absurd c2 c1) (fun _ => ?_)
      refine pr_iconst dX10_solution_12 ?_
      exact pr_ireturn dX10_solution_13 rfl
  · have g0 : (h2.set 84 (.inr (14, fY.set 0 (.int 0))))[84]? = some (.inr (14, fY.set 0 (.int 0))) := List.getElem?_set_self (by rw [h2_len]; decide)
    refine pr_enter (by decide +kernel) (Nat.le_of_ble_eq_true rfl) ?_
    show pr_R 13 _ 0 [(0, .ref 84), (1, .int n)] [] h2 _ _
    refine pr_aload_n (q := 0) dX14_solution_0 rfl ?_
    refine pr_iconst dX14_solution_1 ?_
    refine pr_putf (kf := 0) dX14_solution_2 cf_14 (by decide) wd_206 rfl y0 (by omega) (fun b => ⟨rfl, rfl⟩) ?_
    refine pr_iload_n (q := 1) dX14_solution_5 rfl ?_
    refine pr_if_lt (tgt := 17) dX14_solution_6 (by decide) (fun _ => ?_) (fun c1 => ?_)
    · refine pr_iconst dX14_solution_17 ?_
      refine pr_goto (tgt := 30) dX14_solution_18 (by decide) ?_
      exact pr_ireturn dX14_solution_30 rfl
    · refine pr_iload_n (q := 1) dX14_solution_9 rfl ?_
      refine pr_aload_n (q := 0) dX14_solution_10 rfl ?_
      refine pr_getf (kf := 8) dX14_solution_11 cf_14 (by decide) wd_216 g0 (x := .int 0) (by rw [List.getElem?_set_ne (by decide)]; exact y2 (8, .int 0) (by simp)) ?_
      refine pr_icmp_lt (tgt := 21) dX14_solution_14 (by decide) (fun c2 => absurd c2 c1) (fun _ => ?_)
      refine pr_iconst dX14_solution_17 ?_
      refine pr_goto (tgt := 30) dX14_solution_18 (by decide) ?_
      exact pr_ireturn dX14_solution_30 rfl
  · rw [pr_sz_set y0 (by simp [pr_s])]
    exact Nat.le_trans h2_sz (by decide)
