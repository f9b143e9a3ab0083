/-! calls with arguments: what is known of the fresh objects, and the walks -/
def pr_vb (a b : Value) : Bool := match a, b with
  | .int x, .int y => decide (x = y)
  | .ref x, .ref y => Nat.beq x y
  | _, _ => false
theorem pr_vb_eq {a b : Value} (h : pr_vb a b = true) : a = b := by
  unfold pr_vb at h
  split at h
  · rw [decide_eq_true_eq] at h; rw [h]
  · rw [Nat.eq_of_beq_eq_true h]
  · cases h
noncomputable def pr_fvs (fs : List Value) (L : List (Nat × Value)) : Bool := List.rec (motive := fun _ => Bool) true (fun q _ ih => (match pr_at fs q.1 with
  | some u => pr_vb u q.2
  | none => false) && ih) L
theorem pr_fvs_ok {fs : List Value} : ∀ {L : List (Nat × Value)}, pr_fvs fs L = true → ∀ q ∈ L, fs[q.1]? = some q.2
  | [], _, q, hq => by cases hq
  | q0 :: L, h, q, hq => by
    have hu : pr_fvs fs (q0 :: L) = ((match pr_at fs q0.1 with
      | some u => pr_vb u q0.2
      | none => false) && pr_fvs fs L) := rfl
    rw [hu, Bool.and_eq_true] at h
    rcases List.mem_cons.mp hq with rfl | hq
    · have h1 := h.1
      split at h1
      · rename_i u hu
        rw [pr_at_eq] at hu
        rw [hu, pr_vb_eq h1]
      · cases h1
    · exact pr_fvs_ok h.2 q hq
noncomputable def pr_fcs (h : pr_H) (k ci N : Nat) (L : List (Nat × Value)) : Bool := match pr_at h k with
  | some (.inr (c, fs)) => Nat.beq c ci && (Nat.beq (pr_len fs) N && pr_fvs fs L)
  | _ => false
theorem pr_fcs_ok {h : pr_H} {k ci N : Nat} {L : List (Nat × Value)} (hc : pr_fcs h k ci N L = true) : ∃ fs : List Value, h[k]? = some (.inr (ci, fs)) ∧ fs.length = N ∧ ∀ q ∈ L, fs[q.1]? = some q.2 := by
  unfold pr_fcs at hc
  split at hc
  · rename_i c fs hk
    rw [pr_at_eq] at hk
    simp only [Bool.and_eq_true] at hc
    refine ⟨fs, by rw [hk, Nat.eq_of_beq_eq_true hc.1], by rw [← pr_len_eq]; exact Nat.eq_of_beq_eq_true hc.2.1, pr_fvs_ok hc.2.2⟩
  · cases hc
noncomputable def pr_ac (h : pr_H) (k t n : Nat) : Bool := match pr_at h k with
  | some (.inl (t0, n0, .inl _)) => Nat.beq t0 t && Nat.beq n0 n
  | _ => false
theorem pr_ac_ok {h : pr_H} {k t n : Nat} (hc : pr_ac h k t n = true) : ∃ f : Nat → Int32, h[k]? = some (.inl (t, n, .inl f)) := by
  unfold pr_ac at hc
  split at hc
  · rename_i t0 n0 f hk
    rw [pr_at_eq] at hk
    simp only [Bool.and_eq_true] at hc
    exact ⟨f, by rw [hk, Nat.eq_of_beq_eq_true hc.1, Nat.eq_of_beq_eq_true hc.2]⟩
  · cases hc
set_option maxRecDepth 100000 in
theorem h2_facts : (pr_fcs h2 0 10 17 [(0, .ref 1), (1, .ref 3), (7, .ref 31), (13, .int 0)] && (pr_fcs h2 1 7 2 [(0, .ref 2), (1, .int 0)] && (pr_fcs h2 3 7 2 [(1, .int 0)] && (pr_ac h2 2 0 600 && (pr_fcs h2 31 0 9 [(2, .ref 34)] && (pr_fcs h2 34 7 2 [(1, .int 0)] && (pr_fcs h2 84 14 38 [(0, .int 0), (8, .int 0), (9, .ref 119), (10, .int 0), (20, .ref 121), (30, .int 0)] && (pr_ac h2 119 3 600 && (pr_fcs h2 121 11 4 [(0, .int 0)] && (Nat.beq (pr_len h2) 139 && decide (pr_sz h2 ≤ 2000000))))))))))) = true := by decide +kernel
theorem pr_andl {a b : Bool} (h : (a && b) = true) : a = true := by
  cases a
  · cases h
  · rfl
theorem pr_andr {a b : Bool} (h : (a && b) = true) : b = true := by
  cases a
  · cases h
  · exact h
theorem h2_f9 : (Nat.beq (pr_len h2) 139 && decide (pr_sz h2 ≤ 2000000)) = true := pr_andr (pr_andr (pr_andr (pr_andr (pr_andr (pr_andr (pr_andr (pr_andr (pr_andr h2_facts))))))))
theorem h2_len : h2.length = 139 := (pr_len_eq h2).symm.trans (Nat.eq_of_beq_eq_true (pr_andl h2_f9))
theorem h2_sz : pr_sz h2 ≤ 2000000 := of_decide_eq_true (pr_andr h2_f9)
/-- Row.size() -/
theorem c_size {d k : Nat} {h : pr_H} {fs : List Value} {n : Int32} (ho : h[k]? = some (.inr (7, fs))) (hv : fs[1]? = some (.int n)) : pr_Met (d + 1) m_79 [.ref k] h (some (.int n)) h := by
  refine pr_enter (by decide +kernel) (Nat.le_of_ble_eq_true rfl) ?_
  refine pr_aload_n (q := 0) dX7_size_0 rfl ?_
  refine pr_getf (kf := 1) dX7_size_1 cf_7 (by decide) wd_410 ho hv ?_
  exact pr_ireturn dX7_size_4 rfl
/-- Row.put(x), where there is room -/
theorem c_put {d k kc N n : Nat} {h : pr_H} {fs : List Value} {f : Nat → Int32} {x : Int32} (ho : h[k]? = some (.inr (7, fs))) (hl : fs.length = 2) (h0 : fs[0]? = some (.ref kc)) (h1 : fs[1]? = some (.int (nI n))) (ha : h[kc]? = some (.inl (0, N, .inl f))) (hn : n < N) (hN : N < 2 ^ 31) (hk : ¬ kc = k) :
    pr_Met (d + 1) m_81 [.ref k, .int x] h none ((h.set kc (.inl (0, N, .inl (upd f n x)))).set k (.inr (7, fs.set 1 (.int (nI (n + 1)))))) := by
  refine pr_enter (by decide +kernel) (Nat.le_of_ble_eq_true rfl) ?_
  show pr_R (d + 1) _ 0 [(0, .ref k), (1, .int x)] [] h none _
  have hb : (h.set kc (.inl (0, N, .inl (upd f n x))))[k]? = some (.inr (7, fs)) := by rw [List.getElem?_set_ne hk]; exact ho
  refine pr_aload_n (q := 0) dX7_put_0 rfl ?_
  refine pr_getf (kf := 1) dX7_put_1 cf_7 (by decide) wd_410 ho h1 ?_
  refine pr_aload_n (q := 0) dX7_put_4 rfl ?_
  refine pr_getf (kf := 0) dX7_put_5 cf_7 (by decide) wd_409 ho h0 ?_
  refine pr_alen (ty := .int) dX7_put_8 rfl ha ?_
  refine pr_icmp_lt (tgt := 31) dX7_put_9 (by decide) (fun _ => ?_) (fun hc => absurd (nI_lt hn hN) hc)
  refine pr_aload_n (q := 0) dX7_put_31 rfl ?_
  refine pr_getf (kf := 0) dX7_put_32 cf_7 (by decide) wd_409 ho h0 ?_
  refine pr_aload_n (q := 0) dX7_put_35 rfl ?_
  refine pr_getf (kf := 1) dX7_put_36 cf_7 (by decide) wd_410 ho h1 ?_
  refine pr_iload_n (q := 1) dX7_put_39 rfl ?_
  refine pr_iast (t := 0) (n := N) (f := f) dX7_put_40 rfl ha (nI_in hn hN) ?_
  rw [nI_clamp (by omega)]
  refine pr_aload_n (q := 0) dX7_put_41 rfl ?_
  refine pr_dup dX7_put_42 rfl ?_
  refine pr_getf (kf := 1) dX7_put_43 cf_7 (by decide) wd_410 hb h1 ?_
  refine pr_iconst dX7_put_46 ?_
  refine pr_iadd dX7_put_47 ?_
  rw [show nI n + Int32.ofInt 1 = nI (n + 1) from nI_1 n]
  refine pr_putf (kf := 1) dX7_put_48 cf_7 (by decide) wd_410 rfl hb (by omega) (fun b => ⟨rfl, rfl⟩) ?_
  exact pr_return dX7_put_51 rfl
theorem pr_sub1 (x : Int32) : x + Int32.ofInt (-1) = x - 1 := by
  rw [Int32.sub_eq_add_neg]
  rfl
/-- the loop of feed(): r bytes are left -/
theorem feedX_loop {d : Nat} {w : Int64} {n : Int32} : ∀ (r p : Nat) (h : pr_H) (fs0 fs1 : List Value) (f : Nat → Int32), h[0]? = some (.inr (10, fs0)) → fs0[0]? = some (.ref 1) → h[1]? = some (.inr (7, fs1)) → fs1.length = 2 → fs1[0]? = some (.ref 2) → fs1[1]? = some (.int (nI p)) → h[2]? = some (.inl (0, 600, .inl f)) → p + r ≤ 8 →
    ∃ h' : pr_H, h'.length = h.length ∧ pr_sz h' = pr_sz h ∧ (∀ k, 3 ≤ k → h'[k]? = h[k]?) ∧ pr_R (d + 2) m_X_feed 37 [(4, .int (nI r - 1)), (0, .ref 0), (1, .long w), (3, .int n)] [] h (some (.int (nI (p + r)))) h' := by
  intro r
  induction r with
  | zero =>
    intro p h fs0 fs1 f h0 h01 h1 hl h10 h11 h2 hp
    refine ⟨h, rfl, rfl, fun _ _ => rfl, ?_⟩
    refine pr_iload (i := 4) dX10_feed_37 rfl ?_
    refine pr_if_lt (tgt := 67) dX10_feed_39 (by decide) (fun _ => ?_) (fun hc => absurd (by decide +kernel) hc)
    refine pr_aload_n (q := 0) dX10_feed_67 rfl ?_
    refine pr_getf (kf := 0) dX10_feed_68 cf_10 (by decide) wd_8 h0 h01 ?_
    refine pr_callV (as := []) (rest := []) (k := 1) dX10_feed_71 cal_79 wd_100 wd_102 wd_101 rfl (ci := 7) rfl h1 (by decide) (c_size h1 h11) ?_
    exact pr_ireturn dX10_feed_74 rfl
  | succ r ih =>
    intro p h fs0 fs1 f h0 h01 h1 hl h10 h11 h2 hp
    have e1 : nI (r + 1) - 1 = nI r := nI_pred r
    rw [e1]
    have k1 := (List.getElem?_eq_some_iff.mp h1).1
    have k2 := (List.getElem?_eq_some_iff.mp h2).1
    have hgo : ∀ x : Int32, ∃ h' : pr_H, h'.length = h.length ∧ pr_sz h' = pr_sz h ∧ (∀ k, 3 ≤ k → h'[k]? = h[k]?) ∧ pr_R (d + 2) m_X_feed 37 [(4, .int (nI r - 1)), (0, .ref 0), (1, .long w), (3, .int n)] [] ((h.set 2 (.inl (0, 600, .inl (upd f p x)))).set 1 (.inr (7, fs1.set 1 (.int (nI (p + 1)))))) (some (.int (nI (p + (r + 1))))) h' := by
      intro x
      have g0 : ((h.set 2 (.inl (0, 600, .inl (upd f p x)))).set 1 (.inr (7, fs1.set 1 (.int (nI (p + 1))))))[0]? = some (.inr (10, fs0)) := by
        rw [List.getElem?_set_ne (by decide), List.getElem?_set_ne (by decide)]; exact h0
      have g1 : ((h.set 2 (.inl (0, 600, .inl (upd f p x)))).set 1 (.inr (7, fs1.set 1 (.int (nI (p + 1))))))[1]? = some (.inr (7, fs1.set 1 (.int (nI (p + 1))))) := List.getElem?_set_self (by rw [List.length_set]; exact k1)
      have g2 : ((h.set 2 (.inl (0, 600, .inl (upd f p x)))).set 1 (.inr (7, fs1.set 1 (.int (nI (p + 1))))))[2]? = some (.inl (0, 600, .inl (upd f p x))) := by
        rw [List.getElem?_set_ne (by decide)]; exact List.getElem?_set_self k2
      obtain ⟨h', q1, q2, q3, q4⟩ := ih (p + 1) _ fs0 _ _ g0 h01 g1 (by rw [List.length_set]; exact hl) (by rw [List.getElem?_set_ne (by decide)]; exact h10) (List.getElem?_set_self (by omega)) g2 (by omega)
      refine ⟨h', by rw [q1]; simp, ?_, fun k hk => ?_, ?_⟩
      · have b1 : (h.set 2 (.inl (0, 600, .inl (upd f p x))))[1]? = some (.inr (7, fs1)) := by rw [List.getElem?_set_ne (by decide)]; exact h1
        rw [q2, pr_sz_set b1 (by simp [pr_s]), pr_sz_set (y := .inl (0, 600, .inl (upd f p x))) h2 rfl]
      · rw [q3 k hk, List.getElem?_set_ne (by omega), List.getElem?_set_ne (by omega)]
      · rw [show p + (r + 1) = p + 1 + r by omega]; exact q4
    obtain ⟨h', q1, q2, q3, q4⟩ := hgo ((w.toUInt64 >>> ((8 * nI r).toInt64.toUInt64 &&& Int64.toUInt64 63)).toInt64.toInt32 &&& 255)
    refine ⟨h', q1, q2, q3, ?_⟩
    refine pr_iload (i := 4) dX10_feed_37 rfl ?_
    refine pr_if_lt (tgt := 67) dX10_feed_39 (by decide) (fun hc => absurd hc (nI_pos (by omega))) (fun _ => ?_)
    refine pr_aload_n (q := 0) dX10_feed_42 rfl ?_
    refine pr_getf (kf := 0) dX10_feed_43 cf_10 (by decide) wd_8 h0 h01 ?_
    refine pr_lload_n (q := 1) dX10_feed_46 rfl ?_
    refine pr_bipush dX10_feed_47 ?_
    refine pr_iload (i := 4) dX10_feed_49 rfl ?_
    refine pr_imul dX10_feed_51 ?_
    refine pr_lushr dX10_feed_52 ?_
    refine pr_l2i dX10_feed_53 ?_
    refine pr_sipush dX10_feed_54 ?_
    refine pr_iand dX10_feed_57 ?_
    refine pr_callV (as := [.int _]) (rest := []) (k := 1) dX10_feed_58 cal_81 wd_738 wd_334 wd_333 rfl (ci := 7) rfl h1 (by decide) (c_put h1 hl h10 h11 h2 (by omega) (by decide) (by decide)) ?_
    refine pr_iinc (i := 4) (n := -1) (x := nI r) dX10_feed_61 rfl (by decide) ?_
    refine pr_goto (tgt := 37) dX10_feed_64 (by decide) ?_
    rw [pr_sub1]
    exact q4
theorem pr_bad8 {n : Int32} (h : ¬ (1 ≤ n ∧ n ≤ 8)) : n < 1 ∨ ¬ n ≤ 8 := by
  by_cases q : n < 1
  · exact Or.inl q
  · exact Or.inr (fun q8 => h ⟨Int32.not_lt.mp q, q8⟩)
/-- feed() of the class -/
theorem feedX_bad {d : Nat} {w : Int64} {n : Int32} {h : pr_H} (hn : ¬ (1 ≤ n ∧ n ≤ 8)) : pr_Met (d + 2) m_X_feed [.ref 0, .long w, .int n] h (some (.int (-2))) h := by
  refine pr_enter (by decide +kernel) (Nat.le_of_ble_eq_true rfl) ?_
  show pr_R (d + 2) _ 0 [(0, .ref 0), (1, .long w), (3, .int n)] [] h _ _
  refine pr_iload_n (q := 3) dX10_feed_0 rfl ?_
  refine pr_iconst dX10_feed_1 ?_
  refine pr_icmp_lt (tgt := 11) dX10_feed_2 (by decide) (fun _ => ?_) (fun c1 => ?_)
  · refine pr_bipush dX10_feed_11 ?_
    exact pr_ireturn dX10_feed_13 rfl
  · refine pr_iload_n (q := 3) dX10_feed_5 rfl ?_
    refine pr_bipush dX10_feed_6 ?_
    refine pr_icmp_le (tgt := 14) dX10_feed_8 (by decide) (fun c2 => ?_) (fun _ => ?_)
    · exact absurd ⟨Int32.not_lt.mp c1, c2⟩ hn
    · refine pr_bipush dX10_feed_11 ?_
      exact pr_ireturn dX10_feed_13 rfl
theorem feedX_ok {d m : Nat} {w : Int64} {h : pr_H} {fs0 fs1 : List Value} {f : Nat → Int32} (h0 : h[0]? = some (.inr (10, fs0))) (h01 : fs0[0]? = some (.ref 1)) (h1 : h[1]? = some (.inr (7, fs1))) (hl : fs1.length = 2) (h10 : fs1[0]? = some (.ref 2)) (h11 : fs1[1]? = some (.int 0)) (h2 : h[2]? = some (.inl (0, 600, .inl f))) (hm0 : 1 ≤ m) (hm : m ≤ 8) :
    ∃ h' : pr_H, h'.length = h.length ∧ pr_sz h' = pr_sz h ∧ (∀ k, 3 ≤ k → h'[k]? = h[k]?) ∧ pr_Met (d + 2) m_X_feed [.ref 0, .long w, .int (nI m)] h (some (.int (nI m))) h' := by
  obtain ⟨h', q1, q2, q3, q4⟩ := feedX_loop (d := d) (w := w) (n := nI m) m 0 h fs0 fs1 f h0 h01 h1 hl h10 h11 h2 (by omega)
  refine ⟨h', q1, q2, q3, ?_⟩
  rw [Nat.zero_add] at q4
  refine pr_enter (by decide +kernel) (Nat.le_of_ble_eq_true rfl) ?_
  show pr_R (d + 2) _ 0 [(0, .ref 0), (1, .long w), (3, .int (nI m))] [] h _ _
  refine pr_iload_n (q := 3) dX10_feed_0 rfl ?_
  refine pr_iconst dX10_feed_1 ?_
  refine pr_icmp_lt (tgt := 11) dX10_feed_2 (by decide) (fun c1 => absurd (show nI m < nI 1 from c1) (nI_nlt hm0 (by omega))) (fun c1 => ?_)
  refine pr_iload_n (q := 3) dX10_feed_5 rfl ?_
  refine pr_bipush dX10_feed_6 ?_
  refine pr_icmp_le (tgt := 14) dX10_feed_8 (by decide) (fun c2 => ?_) (fun c2 => absurd (show nI m ≤ nI 8 from nI_le hm (by decide)) c2)
  refine pr_aload_n (q := 0) dX10_feed_14 rfl ?_
  refine pr_getf (kf := 0) dX10_feed_15 cf_10 (by decide) wd_8 h0 h01 ?_
  refine pr_callV (as := []) (rest := []) (k := 1) dX10_feed_18 cal_79 wd_100 wd_102 wd_101 rfl (ci := 7) rfl h1 (by decide) (c_size h1 h11) ?_
  refine pr_iload_n (q := 3) dX10_feed_21 rfl ?_
  refine pr_iadd dX10_feed_22 ?_
  refine pr_sipush dX10_feed_23 ?_
  refine pr_icmp_le (tgt := 32) dX10_feed_26 (by decide) (fun _ => ?_) (fun c3 => absurd (show (0 : Int32) + nI m ≤ nI 600 by rw [Int32.zero_add]; exact nI_le (by omega) (by decide)) c3)
  refine pr_iload_n (q := 3) dX10_feed_32 rfl ?_
  refine pr_iconst dX10_feed_33 ?_
  refine pr_isub dX10_feed_34 ?_
  refine pr_istore (i := 4) dX10_feed_35 (by decide) ?_
  exact q4
/-- the loop of feed() of the reference -/
theorem feedY_loop {d : Nat} {w : Int64} {n : Int32} : ∀ (r p : Nat) (h : pr_H) (fs : List Value) (g : Nat → Int32), h[84]? = some (.inr (14, fs)) → fs.length = 38 → fs[9]? = some (.ref 119) → fs[10]? = some (.int (nI p)) → h[119]? = some (.inl (3, 600, .inl g)) → p + r ≤ 8 →
    ∃ h' : pr_H, h'.length = h.length ∧ pr_sz h' = pr_sz h ∧ pr_R (d + 2) m_Y_feed 39 [(4, .int (nI r - 1)), (0, .ref 84), (1, .long w), (3, .int n)] [] h (some (.int (nI (p + r)))) h' := by
  intro r
  induction r with
  | zero =>
    intro p h fs g h0 hl h9 h10 ht hp
    refine ⟨h, rfl, rfl, ?_⟩
    refine pr_iload (i := 4) dX14_feed_39 rfl ?_
    refine pr_if_lt (tgt := 78) dX14_feed_41 (by decide) (fun _ => ?_) (fun hc => absurd (by decide +kernel) hc)
    refine pr_aload_n (q := 0) dX14_feed_78 rfl ?_
    refine pr_getf (kf := 10) dX14_feed_79 cf_14 (by decide) wd_185 h0 h10 ?_
    exact pr_ireturn dX14_feed_82 rfl
  | succ r ih =>
    intro p h fs g h0 hl h9 h10 ht hp
    have e1 : nI (r + 1) - 1 = nI r := nI_pred r
    rw [e1]
    have k1 := (List.getElem?_eq_some_iff.mp h0).1
    have k2 := (List.getElem?_eq_some_iff.mp ht).1
    have hgo : ∀ x : Int32, ∃ h' : pr_H, h'.length = h.length ∧ pr_sz h' = pr_sz h ∧ pr_R (d + 2) m_Y_feed 39 [(4, .int (nI r - 1)), (0, .ref 84), (1, .long w), (3, .int n)] [] ((h.set 119 (.inl (3, 600, .inl (upd g p x)))).set 84 (.inr (14, fs.set 10 (.int (nI (p + 1)))))) (some (.int (nI (p + (r + 1))))) h' := by
      intro x
      have g0 : ((h.set 119 (.inl (3, 600, .inl (upd g p x)))).set 84 (.inr (14, fs.set 10 (.int (nI (p + 1))))))[84]? = some (.inr (14, fs.set 10 (.int (nI (p + 1))))) := List.getElem?_set_self (by rw [List.length_set]; exact k1)
      have g2 : ((h.set 119 (.inl (3, 600, .inl (upd g p x)))).set 84 (.inr (14, fs.set 10 (.int (nI (p + 1))))))[119]? = some (.inl (3, 600, .inl (upd g p x))) := by
        rw [List.getElem?_set_ne (by decide)]; exact List.getElem?_set_self k2
      obtain ⟨h', q1, q2, q4⟩ := ih (p + 1) _ _ _ g0 (by rw [List.length_set]; exact hl) (by rw [List.getElem?_set_ne (by decide)]; exact h9) (List.getElem?_set_self (by omega)) g2 (by omega)
      refine ⟨h', by rw [q1]; simp, ?_, ?_⟩
      · have b1 : (h.set 119 (.inl (3, 600, .inl (upd g p x))))[84]? = some (.inr (14, fs)) := by rw [List.getElem?_set_ne (by decide)]; exact h0
        rw [q2, pr_sz_set b1 (by simp [pr_s]), pr_sz_set (y := .inl (3, 600, .inl (upd g p x))) ht rfl]
      · rw [show p + (r + 1) = p + 1 + r by omega]; exact q4
    obtain ⟨h', q1, q2, q4⟩ := hgo (vp_nar .byte ((w >>> ((8 * nI r).toInt64 &&& 63)).toInt32.toInt8.toInt32))
    refine ⟨h', q1, q2, ?_⟩
    have hb : ∀ x : Int32, (h.set 119 (.inl (3, 600, .inl (upd g p x))))[84]? = some (.inr (14, fs)) := fun x => by rw [List.getElem?_set_ne (by decide)]; exact h0
    refine pr_iload (i := 4) dX14_feed_39 rfl ?_
    refine pr_if_lt (tgt := 78) dX14_feed_41 (by decide) (fun hc => absurd hc (nI_pos (by omega))) (fun _ => ?_)
    refine pr_aload_n (q := 0) dX14_feed_44 rfl ?_
    refine pr_getf (kf := 9) dX14_feed_45 cf_14 (by decide) wd_148 h0 h9 ?_
    refine pr_aload_n (q := 0) dX14_feed_48 rfl ?_
    refine pr_getf (kf := 10) dX14_feed_49 cf_14 (by decide) wd_185 h0 h10 ?_
    refine pr_lload_n (q := 1) dX14_feed_52 rfl ?_
    refine pr_bipush dX14_feed_53 ?_
    refine pr_iload (i := 4) dX14_feed_55 rfl ?_
    refine pr_imul dX14_feed_57 ?_
    refine pr_lshr dX14_feed_58 ?_
    refine pr_l2i dX14_feed_59 ?_
    refine pr_i2b dX14_feed_60 ?_
    refine pr_bast (n := 600) (f := g) dX14_feed_61 ht (nI_in (by omega) (by decide)) ?_
    rw [nI_clamp (by omega)]
    refine pr_aload_n (q := 0) dX14_feed_62 rfl ?_
    refine pr_dup dX14_feed_63 rfl ?_
    refine pr_getf (kf := 10) dX14_feed_64 cf_14 (by decide) wd_185 (hb _) h10 ?_
    refine pr_iconst dX14_feed_67 ?_
    refine pr_iadd dX14_feed_68 ?_
    rw [show nI p + Int32.ofInt 1 = nI (p + 1) from nI_1 p]
    refine pr_putf (kf := 10) dX14_feed_69 cf_14 (by decide) wd_185 rfl (hb _) (by omega) (fun b => ⟨rfl, rfl⟩) ?_
    refine pr_iinc (i := 4) (n := -1) (x := nI r) dX14_feed_72 rfl (by decide) ?_
    refine pr_goto (tgt := 39) dX14_feed_75 (by decide) ?_
    rw [pr_sub1]
    exact q4
