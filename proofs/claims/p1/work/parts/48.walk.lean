/-! the walk of the law -/
theorem hX_eq : rX = some (none, hX) := pr_isV_eq (pr_andl rX_ok)
theorem hX_len : hX.length = 84 := (pr_len_eq hX).symm.trans (Nat.eq_of_beq_eq_true (pr_andr rX_ok))
theorem met_X : pr_Met 13 m_0 [.ref 0] hx0 none hX := pr_run_met pr_tab (n := 3000) (k := 0) (co := qc_0) rfl rfl (Nat.le_of_ble_eq_true rfl) hX_eq
theorem met_M : pr_Met 13 m_15 [.ref 84] hm0 none (pr_hp rM) := pr_run_met pr_tab (n := 3000) (k := 15) (co := qc_15) rfl rfl (Nat.le_of_ble_eq_true rfl) (pr_isV_eq rM_ok)
theorem hM_len : (pr_hp rM).length = 138 := by
  have h := h2_len
  unfold h2 at h
  rw [List.length_append, List.length_singleton] at h
  omega
theorem hM_sz : pr_sz (pr_hp rM) + 1 ≤ 2000000 := by
  have h := h2_sz
  unfold h2 at h
  rw [pr_sz_push, show pr_s (.inl (1, 1, .inr (.inl (fun _ => (0 : Int64))))) = 1 from rfl] at h
  exact h
theorem hX_sz : pr_sz hX + 38 ≤ 2000000 := by
  have h1 := met_M.2.1
  have h3 := hM_sz
  have h2 : pr_sz hm0 = pr_sz hX + 38 := by
    unfold hm0
    rw [pr_sz_push]
    rfl
  rw [h2] at h1
  generalize pr_sz hX = a at h1 ⊢
  generalize pr_sz (pr_hp rM) = c at h1 h3
  omega
section LAWX
variable {p : Program} {l : Launch} {e : Env} {s : State} {m : MethodId} {below : List Frame} {meth : Method} {c : Code} {B : pr_B} {D : va_G} {aC : Nat → ClassId} {H : Heap} {locs : List Loc} {ls : Array Slot} {pc b : Nat} {xs : Nat → Int32}
/-- what is known at the law's start, of a script of L ints -/
def LA (p : Program) (l : Launch) (s : State) (m : MethodId) (meth : Method) (c : Code) (b L : Nat) (xs : Nat → Int32) (B : pr_B) (D : va_G) (aC : Nat → ClassId) : Prop :=
  LC p s m #[Value.ref b] c B D aC ∧ va_X b L xs s s.heap ∧ b < s.heap.size ∧ B.1 = s.heap.size ∧ meth.sig.returnType = ret ∧ meth.locks = false ∧ l.stackTraces = false
theorem lw_fin {L cells slots : Nat} (A : LA p l s m meth c b L xs B D aC) (hS : va_S (pr_A B) s.heap H locs) (h6 : cells ≤ 600002) (h7 : slots ≤ 7302231) : W p l e room_1 s m #[Value.ref b] below meth c H locs cells slots (lw_Z below #[Value.ref b] s) (F0 m 476 ls []) := by
  obtain ⟨C, hX, hbl, hB, hr, hlocks, -⟩ := A
  refine lv_iconst (v := 1) C.1 C.2.1 dL_law_476 (by decide) ?_
  refine va_forget (fun q hq => by have := hS.2.2 q hq; rw [← hB]; exact this) ?_
  refine W.widen (k := 600002) (n := 7302231) h6 h7 ?_
  exact lw_ret C.1 C.2.1 hr hlocks dL_law_477
theorem lw_end {cells slots : Nat} (A : LA p l s m meth c b 4 xs B D aC) (hl : lv_has ls 7 [(4, .int 0), (0, .ref b)]) (hS : va_S (pr_A B) s.heap H locs) (h6 : cells ≤ 600002) (h7 : slots ≤ 7302231) : W p l e room_1 s m #[Value.ref b] below meth c H locs cells slots (lw_Z below #[Value.ref b] s) (F0 m 470 ls []) := by
  have A0 := A
  obtain ⟨C, hX, hbl, hB, hr, hlocks, -⟩ := A
  have hbA : ¬ pr_A B b := by show ¬ B.1 ≤ b; rw [hB]; exact Nat.not_le.mpr hbl
  refine lv_iinc (v := 4) (lv' := [(4, .int 4), (0, .ref b)]) C.1 C.2.1 dL_law_470 hl (k := 0) rfl (by decide +kernel) (by decide) rfl (fun ls2 hl2 => ?_)
  refine lv_goto (tgt := 23) C.1 C.2.1 dL_law_473 (by decide) ?_
  refine lv_iload C.1 C.2.1 dL_law_23 (lv_at hl2 0 rfl) ?_
  refine lv_aload_n C.1 C.2.1 dL_law_25 rfl (lv_at hl2 1 rfl) ?_
  refine va_slen C.1 C.2.1 hX hbl hbA hS dL_law_26 ?_
  refine lv_iconst (v := 4) C.1 C.2.1 dL_law_27 (by decide) ?_
  refine lv_isub C.1 C.2.1 dL_law_28 ?_
  exact lv_icmp_gt (tgt := 476) C.1 C.2.1 dL_law_29 (by decide) (fun _ => lw_fin A0 hS h6 h7) (fun q => absurd (by decide +kernel) q)
/-- script[i + j], at i = 0 -/
theorem lw_rd {Q : State → Prop} {jn cells slots : Nat} {ji : Int} {v : Int32} {st : List Value} (A : LA p l s m meth c b 4 xs B D aC) (hl : lv_has ls 7 [(4, .int 0), (0, .ref b)]) (hS : va_S (pr_A B) s.heap H locs) (d0 : decode code pc = .ok (.aload_n 0, 1)) (d1 : decode code (pc + 1) = .ok (.iload 4, 2)) (d3 : decode code (pc + 3) = .ok (.iconst ji, 1)) (d4 : decode code (pc + 4) = .ok (.iadd, 1)) (d5 : decode code (pc + 5) = .ok (.iaload, 1)) (hv : Int32.ofInt ji = v) (hj : ((0 : Int32) + v).toNatClampNeg = jn) (hin : vp_in ((0 : Int32) + v) 4)
    (kk : W p l e room_1 s m #[Value.ref b] below meth c H locs cells slots Q (F0 m (pc + 6) ls (.int (xs jn) :: st))) : W p l e room_1 s m #[Value.ref b] below meth c H locs cells slots Q (F0 m pc ls st) := by
  obtain ⟨C, hX, hbl, hB, hr, hlocks, -⟩ := A
  have hbA : ¬ pr_A B b := by show ¬ B.1 ≤ b; rw [hB]; exact Nat.not_le.mpr hbl
  refine lv_aload_n C.1 C.2.1 d0 rfl (lv_at hl 1 rfl) ?_
  refine lv_iload C.1 C.2.1 d1 (lv_at hl 0 rfl) ?_
  refine lv_iconst (v := v) C.1 C.2.1 d3 hv ?_
  refine lv_iadd C.1 C.2.1 d4 ?_
  refine va_sld C.1 C.2.1 hX hbl hbA hS hin d5 ?_
  rw [hj]
  exact kk
/-- two answers that are the same: the loop's next turn -/
theorem lw_same {pc : Nat} {off : Int} {x : Int32} {cells slots : Nat} (A : LA p l s m meth c b 4 xs B D aC) (hl : lv_has ls 7 [(4, .int 0), (0, .ref b)]) (hS : va_S (pr_A B) s.heap H locs) (h6 : cells ≤ 600002) (h7 : slots ≤ 7302231) (hd : decode code pc = .ok (.if_icmp .eq off, 3)) (ht : (pc : Int) + off = ((470 : Nat) : Int)) : W p l e room_1 s m #[Value.ref b] below meth c H locs cells slots (lw_Z below #[Value.ref b] s) (F0 m pc ls [.int x, .int x]) :=
  lv_icmp_eq (tgt := 470) A.1.1 A.1.2.1 hd ht (fun _ => lw_end A hl hS h6 h7) (fun q => absurd rfl q)
abbrev lw_lo (B : pr_B) (b : Nat) : List (Nat × Value) := [(4, .int 0), (3, .ref (B.1 + 138)), (2, .ref (B.1 + 84)), (1, .ref (B.1 + 0)), (0, .ref b)]
/-- the two calls of a case, with the arguments as given, by what lies between -/
theorem lw_two {pc pc2 i1 i2 n : Nat} {off : Int} {m1 m2 : pr_M} {as : List Value} (A : LA p l s m meth c b 4 xs B D aC) (hl : lv_has ls 7 (lw_lo B b)) (hI : pr_I B D aC h2 H) (hS : va_S (pr_A B) s.heap H locs)
    (d1 : decode code pc = .ok (.invokevirtual i1, 3)) (d2 : decode code pc2 = .ok (.invokevirtual i2, 3)) (d3 : decode code (pc2 + 3) = .ok (.if_icmp .eq off, 3)) (ht : ((pc2 + 3 : Nat) : Int) + off = ((470 : Nat) : Int))
    (c1 : pr_cal m1 n) (l1 : Cond.methodLink R_law i1 m1.1 ∈ pr_G) (n1 : Cond.instanceMethod m1.1 ∈ pr_G) (s1 : Cond.selects m1.1.cls m1.1 m1.1 ∈ pr_G) (k1 : pr_cl[10]? = some (m1.1.cls, TX10, 17))
    (c2 : pr_cal m2 n) (l2 : Cond.methodLink R_law i2 m2.1 ∈ pr_G) (n2 : Cond.instanceMethod m2.1 ∈ pr_G) (s2 : Cond.selects m2.1.cls m2.1 m2.1 ∈ pr_G) (k2 : pr_cl[14]? = some (m2.1.cls, TX14, 38)) (hn : as.length = n)
    (same : pr_same m1 m2 as)
    (mid : ∀ (x : Int32) (H1 : Heap) (locs1 : List Loc) (cells slots : Nat), va_S (pr_A B) s.heap H1 locs1 → W p l e room_1 s m #[Value.ref b] below meth c H1 locs1 cells slots (lw_Z below #[Value.ref b] s) (F0 m pc2 ls ((as.reverse ++ Value.ref 84 :: [Value.int x]).map (pr_v B))) → W p l e room_1 s m #[Value.ref b] below meth c H1 locs1 cells slots (lw_Z below #[Value.ref b] s) (F0 m (pc + 3) ls [.int x])) :
    W p l e room_1 s m #[Value.ref b] below meth c H locs h2.length (pr_sz h2) (lw_Z below #[Value.ref b] s) (F0 m pc ls ((as.reverse ++ Value.ref 0 :: []).map (pr_v B))) := by
  obtain ⟨x, h3, h4, ⟨fs3, g3⟩, M1, M2, b1, b2⟩ := same
  obtain ⟨fX, x0, -, -⟩ := h2_X
  have z1 : h3.length ≤ 1000 := Nat.le_trans M2.1 b1
  have z2 : pr_sz h3 ≤ 3000000 := Nat.le_trans M2.2.1 b2
  refine lw_cv (rest := []) A.1 d1 c1 l1 n1 s1 hn k1 x0 (by decide) M1 hI hS hl.1 (Nat.le_trans z1 (by decide)) (Nat.le_trans z2 (by decide)) (fun H1 locs1 hI1 hS1 => ?_)
  refine mid x H1 locs1 _ _ hS1 ?_
  refine lw_cv (rest := [.int x]) A.1 d2 c2 l2 n2 s2 hn k2 g3 (Nat.le_of_ble_eq_true rfl) M2 hI1 hS1 hl.1 (Nat.le_trans b1 (by decide)) (Nat.le_trans b2 (by decide)) (fun H2 locs2 hI2 hS2 => ?_)
  exact lw_same A (lv_sub hl [0, 4] rfl) hS2 (Nat.le_trans b1 (by decide)) (Nat.le_trans b2 (by decide)) d3 ht

theorem case_1 (A : LA p l s m meth c b 4 xs B D aC) (hl : lv_has ls 7 (lw_lo B b)) (hI : pr_I B D aC h2 H) (hS : va_S (pr_A B) s.heap H locs) : W p l e room_1 s m #[Value.ref b] below meth c H locs h2.length (pr_sz h2) (lw_Z below #[Value.ref b] s) (F0 m 181 ls []) := by
  refine lv_aload_n A.1.1 A.1.2.1 dL_law_181 rfl (lv_at hl 3 rfl) ?_
  refine lw_two (as := []) (pc := 182) (pc2 := 186) A hl hI hS dL_law_182 dL_law_186 dL_law_189 (by decide) cal_1 wd_785 wd_786 wd_787 rfl cal_27 wd_788 wd_789 wd_790 rfl rfl same_kinds (fun x H1 locs1 cells slots hS1 kk => ?_)
  exact lv_aload_n A.1.1 A.1.2.1 dL_law_185 rfl (lv_at hl 2 rfl) kk

theorem case_2 (A : LA p l s m meth c b 4 xs B D aC) (hl : lv_has ls 7 (lw_lo B b)) (hI : pr_I B D aC h2 H) (hS : va_S (pr_A B) s.heap H locs) : W p l e room_1 s m #[Value.ref b] below meth c H locs h2.length (pr_sz h2) (lw_Z below #[Value.ref b] s) (F0 m 194 ls []) := by
  refine lv_aload_n A.1.1 A.1.2.1 dL_law_194 rfl (lv_at hl 3 rfl) ?_
  refine lw_two (as := []) (pc := 195) (pc2 := 199) A hl hI hS dL_law_195 dL_law_199 dL_law_202 (by decide) cal_2 wd_791 wd_792 wd_793 rfl cal_28 wd_794 wd_795 wd_796 rfl rfl same_fault (fun x H1 locs1 cells slots hS1 kk => ?_)
  exact lv_aload_n A.1.1 A.1.2.1 dL_law_198 rfl (lv_at hl 2 rfl) kk

theorem case_4 (A : LA p l s m meth c b 4 xs B D aC) (hl : lv_has ls 7 (lw_lo B b)) (hI : pr_I B D aC h2 H) (hS : va_S (pr_A B) s.heap H locs) : W p l e room_1 s m #[Value.ref b] below meth c H locs h2.length (pr_sz h2) (lw_Z below #[Value.ref b] s) (F0 m 248 ls []) := by
  refine lv_aload_n A.1.1 A.1.2.1 dL_law_248 rfl (lv_at hl 3 rfl) ?_
  refine lw_two (as := []) (pc := 249) (pc2 := 253) A hl hI hS dL_law_249 dL_law_253 dL_law_256 (by decide) cal_4 wd_803 wd_804 wd_805 rfl cal_41 wd_806 wd_807 wd_808 rfl rfl same_fresh (fun x H1 locs1 cells slots hS1 kk => ?_)
  exact lv_aload_n A.1.1 A.1.2.1 dL_law_252 rfl (lv_at hl 2 rfl) kk

theorem case_5 (A : LA p l s m meth c b 4 xs B D aC) (hl : lv_has ls 7 (lw_lo B b)) (hI : pr_I B D aC h2 H) (hS : va_S (pr_A B) s.heap H locs) : W p l e room_1 s m #[Value.ref b] below meth c H locs h2.length (pr_sz h2) (lw_Z below #[Value.ref b] s) (F0 m 261 ls []) := by
  refine lv_aload_n A.1.1 A.1.2.1 dL_law_261 rfl (lv_at hl 3 rfl) ?_
  refine lw_two (as := []) (pc := 262) (pc2 := 266) A hl hI hS dL_law_262 dL_law_266 dL_law_269 (by decide) cal_5 wd_809 wd_810 wd_811 rfl cal_42 wd_812 wd_813 wd_814 rfl rfl same_bound (fun x H1 locs1 cells slots hS1 kk => ?_)
  exact lv_aload_n A.1.1 A.1.2.1 dL_law_265 rfl (lv_at hl 2 rfl) kk

theorem case_6 (A : LA p l s m meth c b 4 xs B D aC) (hl : lv_has ls 7 (lw_lo B b)) (hI : pr_I B D aC h2 H) (hS : va_S (pr_A B) s.heap H locs) : W p l e room_1 s m #[Value.ref b] below meth c H locs h2.length (pr_sz h2) (lw_Z below #[Value.ref b] s) (F0 m 274 ls []) := by
  refine lv_aload_n A.1.1 A.1.2.1 dL_law_274 rfl (lv_at hl 3 rfl) ?_
  refine lw_two (as := []) (pc := 275) (pc2 := 279) A hl hI hS dL_law_275 dL_law_279 dL_law_282 (by decide) cal_6 wd_815 wd_816 wd_817 rfl cal_43 wd_818 wd_819 wd_820 rfl rfl same_close (fun x H1 locs1 cells slots hS1 kk => ?_)
  exact lv_aload_n A.1.1 A.1.2.1 dL_law_278 rfl (lv_at hl 2 rfl) kk

theorem case_10 (A : LA p l s m meth c b 4 xs B D aC) (hl : lv_has ls 7 (lw_lo B b)) (hI : pr_I B D aC h2 H) (hS : va_S (pr_A B) s.heap H locs) : W p l e room_1 s m #[Value.ref b] below meth c H locs h2.length (pr_sz h2) (lw_Z below #[Value.ref b] s) (F0 m 393 ls []) := by
  refine lv_aload_n A.1.1 A.1.2.1 dL_law_393 rfl (lv_at hl 3 rfl) ?_
  refine lw_two (as := []) (pc := 394) (pc2 := 398) A hl hI hS dL_law_394 dL_law_398 dL_law_401 (by decide) cal_8 wd_841 wd_842 wd_843 rfl cal_39 wd_844 wd_845 wd_846 rfl rfl same_next (fun x H1 locs1 cells slots hS1 kk => ?_)
  exact lv_aload_n A.1.1 A.1.2.1 dL_law_397 rfl (lv_at hl 2 rfl) kk

theorem case_11 (A : LA p l s m meth c b 4 xs B D aC) (hl : lv_has ls 7 (lw_lo B b)) (hI : pr_I B D aC h2 H) (hS : va_S (pr_A B) s.heap H locs) : W p l e room_1 s m #[Value.ref b] below meth c H locs h2.length (pr_sz h2) (lw_Z below #[Value.ref b] s) (F0 m 406 ls []) := by
  refine lv_aload_n A.1.1 A.1.2.1 dL_law_406 rfl (lv_at hl 3 rfl) ?_
  refine lw_two (as := []) (pc := 407) (pc2 := 411) A hl hI hS dL_law_407 dL_law_411 dL_law_414 (by decide) cal_9 wd_847 wd_848 wd_849 rfl cal_38 wd_850 wd_851 wd_852 rfl rfl same_step (fun x H1 locs1 cells slots hS1 kk => ?_)
  exact lv_aload_n A.1.1 A.1.2.1 dL_law_410 rfl (lv_at hl 2 rfl) kk

theorem case_13 (A : LA p l s m meth c b 4 xs B D aC) (hl : lv_has ls 7 (lw_lo B b)) (hI : pr_I B D aC h2 H) (hS : va_S (pr_A B) s.heap H locs) : W p l e room_1 s m #[Value.ref b] below meth c H locs h2.length (pr_sz h2) (lw_Z below #[Value.ref b] s) (F0 m 444 ls []) := by
  refine lv_aload_n A.1.1 A.1.2.1 dL_law_444 rfl (lv_at hl 3 rfl) ?_
  refine lw_two (as := []) (pc := 445) (pc2 := 449) A hl hI hS dL_law_445 dL_law_449 dL_law_452 (by decide) cal_10 wd_859 wd_860 wd_861 rfl cal_45 wd_862 wd_863 wd_864 rfl rfl same_join (fun x H1 locs1 cells slots hS1 kk => ?_)
  exact lv_aload_n A.1.1 A.1.2.1 dL_law_448 rfl (lv_at hl 2 rfl) kk

theorem case_14 (A : LA p l s m meth c b 4 xs B D aC) (hl : lv_has ls 7 (lw_lo B b)) (hI : pr_I B D aC h2 H) (hS : va_S (pr_A B) s.heap H locs) : W p l e room_1 s m #[Value.ref b] below meth c H locs h2.length (pr_sz h2) (lw_Z below #[Value.ref b] s) (F0 m 457 ls []) := by
  refine lv_aload_n A.1.1 A.1.2.1 dL_law_457 rfl (lv_at hl 3 rfl) ?_
  refine lw_two (as := []) (pc := 458) (pc2 := 462) A hl hI hS dL_law_458 dL_law_462 dL_law_465 (by decide) cal_11 wd_865 wd_866 wd_867 rfl cal_46 wd_868 wd_869 wd_870 rfl rfl same_below (fun x H1 locs1 cells slots hS1 kk => ?_)
  exact lv_aload_n A.1.1 A.1.2.1 dL_law_461 rfl (lv_at hl 2 rfl) kk

theorem case_7 (A : LA p l s m meth c b 4 xs B D aC) (hl : lv_has ls 7 (lw_lo B b)) (hI : pr_I B D aC h2 H) (hS : va_S (pr_A B) s.heap H locs) : W p l e room_1 s m #[Value.ref b] below meth c H locs h2.length (pr_sz h2) (lw_Z below #[Value.ref b] s) (F0 m 287 ls []) := by
  refine lv_aload_n A.1.1 A.1.2.1 dL_law_287 rfl (lv_at hl 3 rfl) ?_
  refine lw_rd (jn := 1) A (lv_sub hl [0, 4] rfl) hS dL_law_288 dL_law_289 dL_law_291 dL_law_292 dL_law_293 rfl (by decide +kernel) (by unfold vp_in; decide +kernel) ?_
  refine lw_two (as := [.int (xs 1)]) (pc := 294) (pc2 := 304) A hl hI hS dL_law_294 dL_law_304 dL_law_307 (by decide) cal_7 wd_821 wd_822 wd_823 rfl cal_44 wd_824 wd_825 wd_826 rfl rfl (same_told _) (fun x H1 locs1 cells slots hS1 kk => ?_)
  refine lv_aload_n A.1.1 A.1.2.1 dL_law_297 rfl (lv_at hl 2 rfl) ?_
  refine lw_rd (jn := 1) A (lv_sub hl [0, 4] rfl) hS1 dL_law_298 dL_law_299 dL_law_301 dL_law_302 dL_law_303 rfl (by decide +kernel) (by unfold vp_in; decide +kernel) ?_
  exact kk

theorem case_8 (A : LA p l s m meth c b 4 xs B D aC) (hl : lv_has ls 7 (lw_lo B b)) (hI : pr_I B D aC h2 H) (hS : va_S (pr_A B) s.heap H locs) : W p l e room_1 s m #[Value.ref b] below meth c H locs h2.length (pr_sz h2) (lw_Z below #[Value.ref b] s) (F0 m 312 ls []) := by
  refine lv_aload_n A.1.1 A.1.2.1 dL_law_312 rfl (lv_at hl 3 rfl) ?_
  refine lw_rd (jn := 1) A (lv_sub hl [0, 4] rfl) hS dL_law_313 dL_law_314 dL_law_316 dL_law_317 dL_law_318 rfl (by decide +kernel) (by unfold vp_in; decide +kernel) ?_
  refine lw_two (as := [.int (xs 1)]) (pc := 319) (pc2 := 329) A hl hI hS dL_law_319 dL_law_329 dL_law_332 (by decide) cal_X_written wd_827 wd_828 wd_829 rfl cal_Y_written wd_830 wd_831 wd_832 rfl rfl (same_written _) (fun x H1 locs1 cells slots hS1 kk => ?_)
  refine lv_aload_n A.1.1 A.1.2.1 dL_law_322 rfl (lv_at hl 2 rfl) ?_
  refine lw_rd (jn := 1) A (lv_sub hl [0, 4] rfl) hS1 dL_law_323 dL_law_324 dL_law_326 dL_law_327 dL_law_328 rfl (by decide +kernel) (by unfold vp_in; decide +kernel) ?_
  exact kk

theorem case_12 (A : LA p l s m meth c b 4 xs B D aC) (hl : lv_has ls 7 (lw_lo B b)) (hI : pr_I B D aC h2 H) (hS : va_S (pr_A B) s.heap H locs) : W p l e room_1 s m #[Value.ref b] below meth c H locs h2.length (pr_sz h2) (lw_Z below #[Value.ref b] s) (F0 m 419 ls []) := by
  refine lv_aload_n A.1.1 A.1.2.1 dL_law_419 rfl (lv_at hl 3 rfl) ?_
  refine lw_rd (jn := 1) A (lv_sub hl [0, 4] rfl) hS dL_law_420 dL_law_421 dL_law_423 dL_law_424 dL_law_425 rfl (by decide +kernel) (by unfold vp_in; decide +kernel) ?_
  refine lw_two (as := [.int (xs 1)]) (pc := 426) (pc2 := 436) A hl hI hS dL_law_426 dL_law_436 dL_law_439 (by decide) cal_X_solution wd_853 wd_854 wd_855 rfl cal_Y_solution wd_856 wd_857 wd_858 rfl rfl (same_solution _) (fun x H1 locs1 cells slots hS1 kk => ?_)
  refine lv_aload_n A.1.1 A.1.2.1 dL_law_429 rfl (lv_at hl 2 rfl) ?_
  refine lw_rd (jn := 1) A (lv_sub hl [0, 4] rfl) hS1 dL_law_430 dL_law_431 dL_law_433 dL_law_434 dL_law_435 rfl (by decide +kernel) (by unfold vp_in; decide +kernel) ?_
  exact kk

theorem case_0 (A : LA p l s m meth c b 4 xs B D aC) (hl : lv_has ls 7 (lw_lo B b)) (hI : pr_I B D aC h2 H) (hS : va_S (pr_A B) s.heap H locs) : W p l e room_1 s m #[Value.ref b] below meth c H locs h2.length (pr_sz h2) (lw_Z below #[Value.ref b] s) (F0 m 112 ls []) := by
  refine lv_aload_n A.1.1 A.1.2.1 dL_law_112 rfl (lv_at hl 3 rfl) ?_
  refine lw_rd (jn := 1) A (lv_sub hl [0, 4] rfl) hS dL_law_113 dL_law_114 dL_law_116 dL_law_117 dL_law_118 rfl (by decide +kernel) (by unfold vp_in; decide +kernel) ?_
  refine lv_i2l A.1.1 A.1.2.1 dL_law_119 rfl ?_
  refine lv_bipush (v := 32) A.1.1 A.1.2.1 dL_law_120 (by decide +kernel) ?_
  refine lv_lshl A.1.1 A.1.2.1 dL_law_122 rfl ?_
  refine lw_rd (jn := 2) A (lv_sub hl [0, 4] rfl) hS dL_law_123 dL_law_124 dL_law_126 dL_law_127 dL_law_128 rfl (by decide +kernel) (by unfold vp_in; decide +kernel) ?_
  refine lv_i2l A.1.1 A.1.2.1 dL_law_129 rfl ?_
  refine lv_ldc2 (v := 4294967295) A.1.1 A.1.2.1 A.1.2.2.2.1 (A.1.2.2.2.2.1 _ wd_884) dL_law_130 ?_
  refine lv_land A.1.1 A.1.2.1 dL_law_133 ?_
  refine lv_lor A.1.1 A.1.2.1 dL_law_134 ?_
  refine lw_rd (jn := 3) A (lv_sub hl [0, 4] rfl) hS dL_law_135 dL_law_136 dL_law_138 dL_law_139 dL_law_140 rfl (by decide +kernel) (by unfold vp_in; decide +kernel) ?_
  refine lw_two (as := [.long ((xs 1).toInt64 <<< ((32 : Int32).toInt64 &&& 63) ||| ((xs 2).toInt64 &&& 4294967295)), .int (xs 3)]) (pc := 141) (pc2 := 173) A hl hI hS dL_law_141 dL_law_173 dL_law_176 (by decide) cal_X_feed wd_779 wd_780 wd_781 rfl cal_Y_feed wd_782 wd_783 wd_784 rfl rfl (same_feed _ _) (fun x H1 locs1 cells slots hS1 kk => ?_)
  refine lv_aload_n A.1.1 A.1.2.1 dL_law_144 rfl (lv_at hl 2 rfl) ?_
  refine lw_rd (jn := 1) A (lv_sub hl [0, 4] rfl) hS1 dL_law_145 dL_law_146 dL_law_148 dL_law_149 dL_law_150 rfl (by decide +kernel) (by unfold vp_in; decide +kernel) ?_
  refine lv_i2l A.1.1 A.1.2.1 dL_law_151 rfl ?_
  refine lv_bipush (v := 32) A.1.1 A.1.2.1 dL_law_152 (by decide +kernel) ?_
  refine lv_lshl A.1.1 A.1.2.1 dL_law_154 rfl ?_
  refine lw_rd (jn := 2) A (lv_sub hl [0, 4] rfl) hS1 dL_law_155 dL_law_156 dL_law_158 dL_law_159 dL_law_160 rfl (by decide +kernel) (by unfold vp_in; decide +kernel) ?_
  refine lv_i2l A.1.1 A.1.2.1 dL_law_161 rfl ?_
  refine lv_ldc2 (v := 4294967295) A.1.1 A.1.2.1 A.1.2.2.2.1 (A.1.2.2.2.2.1 _ wd_884) dL_law_162 ?_
  refine lv_land A.1.1 A.1.2.1 dL_law_165 ?_
  refine lv_lor A.1.1 A.1.2.1 dL_law_166 ?_
  refine lw_rd (jn := 3) A (lv_sub hl [0, 4] rfl) hS1 dL_law_167 dL_law_168 dL_law_170 dL_law_171 dL_law_172 rfl (by decide +kernel) (by unfold vp_in; decide +kernel) ?_
  exact kk

theorem case_3 (A : LA p l s m meth c b 4 xs B D aC) (hl : lv_has ls 7 (lw_lo B b)) (hI : pr_I B D aC h2 H) (hS : va_S (pr_A B) s.heap H locs) : W p l e room_1 s m #[Value.ref b] below meth c H locs h2.length (pr_sz h2) (lw_Z below #[Value.ref b] s) (F0 m 207 ls []) := by
  refine lv_aload_n A.1.1 A.1.2.1 dL_law_207 rfl (lv_at hl 3 rfl) ?_
  refine lw_rd (jn := 1) A (lv_sub hl [0, 4] rfl) hS dL_law_208 dL_law_209 dL_law_211 dL_law_212 dL_law_213 rfl (by decide +kernel) (by unfold vp_in; decide +kernel) ?_
  refine lv_if_eq (tgt := 221) A.1.1 A.1.2.1 dL_law_214 (by decide) (fun c1 => ?_) (fun c1 => ?_)
  · refine lv_iconst (v := 0) A.1.1 A.1.2.1 dL_law_221 (by decide) ?_
    refine lw_two (as := [.int 0]) (pc := 222) (pc2 := 240) A hl hI hS dL_law_222 dL_law_240 dL_law_243 (by decide) cal_3 wd_797 wd_798 wd_799 rfl cal_40 wd_800 wd_801 wd_802 rfl rfl same_variable0 (fun x H1 locs1 cells slots hS1 kk => ?_)
    refine lv_aload_n A.1.1 A.1.2.1 dL_law_225 rfl (lv_at hl 2 rfl) ?_
    refine lw_rd (jn := 1) A (lv_sub hl [0, 4] rfl) hS1 dL_law_226 dL_law_227 dL_law_229 dL_law_230 dL_law_231 rfl (by decide +kernel) (by unfold vp_in; decide +kernel) ?_
    refine lv_if_eq (tgt := 239) A.1.1 A.1.2.1 dL_law_232 (by decide) (fun _ => ?_) (fun c2 => absurd c1 c2)
    refine lv_iconst (v := 0) A.1.1 A.1.2.1 dL_law_239 (by decide) ?_
    exact kk
  · refine lv_iconst (v := 1) A.1.1 A.1.2.1 dL_law_217 (by decide) ?_
    refine lv_goto (tgt := 222) A.1.1 A.1.2.1 dL_law_218 (by decide) ?_
    refine lw_two (as := [.int 1]) (pc := 222) (pc2 := 240) A hl hI hS dL_law_222 dL_law_240 dL_law_243 (by decide) cal_3 wd_797 wd_798 wd_799 rfl cal_40 wd_800 wd_801 wd_802 rfl rfl same_variable1 (fun x H1 locs1 cells slots hS1 kk => ?_)
    refine lv_aload_n A.1.1 A.1.2.1 dL_law_225 rfl (lv_at hl 2 rfl) ?_
    refine lw_rd (jn := 1) A (lv_sub hl [0, 4] rfl) hS1 dL_law_226 dL_law_227 dL_law_229 dL_law_230 dL_law_231 rfl (by decide +kernel) (by unfold vp_in; decide +kernel) ?_
    refine lv_if_eq (tgt := 239) A.1.1 A.1.2.1 dL_law_232 (by decide) (fun c2 => absurd c2 c1) (fun _ => ?_)
    refine lv_iconst (v := 1) A.1.1 A.1.2.1 dL_law_235 (by decide) ?_
    refine lv_goto (tgt := 240) A.1.1 A.1.2.1 dL_law_236 (by decide) ?_
    exact kk

theorem case_9 (A : LA p l s m meth c b 4 xs B D aC) (hl : lv_has ls 7 (lw_lo B b)) (hI : pr_I B D aC h2 H) (hS : va_S (pr_A B) s.heap H locs) : W p l e room_1 s m #[Value.ref b] below meth c H locs h2.length (pr_sz h2) (lw_Z below #[Value.ref b] s) (F0 m 337 ls []) := by
  obtain ⟨h4, ⟨fj, gj⟩, ⟨f4, g4⟩, M1, M2, b1, b2⟩ := letterY (xs 1)
  have z1 : h4.length ≤ 600002 := Nat.le_trans b1 (by decide)
  have z2 : pr_sz h4 ≤ 7302231 := Nat.le_trans b2 (by decide)
  refine lv_aload_n A.1.1 A.1.2.1 dL_law_337 rfl (lv_at hl 3 rfl) ?_
  refine lw_rd (jn := 1) A (lv_sub hl [0, 4] rfl) hS dL_law_338 dL_law_339 dL_law_341 dL_law_342 dL_law_343 rfl (by decide +kernel) (by unfold vp_in; decide +kernel) ?_
  refine lv_aload_n A.1.1 A.1.2.1 dL_law_344 rfl (lv_at hl 1 rfl) ?_
  refine lw_cL A.2.2.2.2.2.2 (o := 138) (rest := []) A.1 dL_law_345 (by decide) hI hS hl.1 (fun H1 locs1 hI1 hS1 => ?_)
  refine lv_istore (i := 5) (lv' := (5, .int 1) :: lw_lo B b) A.1.1 A.1.2.1 dL_law_348 hl (by decide) rfl (fun ls2 hl2 => ?_)
  refine lv_aload_n A.1.1 A.1.2.1 dL_law_350 rfl (lv_at hl2 3 rfl) ?_
  refine lw_rd (jn := 1) A (lv_sub hl2 [1, 5] rfl) hS1 dL_law_351 dL_law_352 dL_law_354 dL_law_355 dL_law_356 rfl (by decide +kernel) (by unfold vp_in; decide +kernel) ?_
  refine lw_cv (as := [.int (xs 1)]) (rest := []) (k := 84) A.1 dL_law_357 cal_Y_letter wd_835 wd_836 wd_837 rfl (ci := 14) rfl gj (by decide) M1 hI1 hS1 hl2.1 z1 z2 (fun H2 locs2 hI2 hS2 => ?_)
  refine lv_istore (i := 6) (x := 0) (lv' := (6, .int 0) :: (5, .int 1) :: lw_lo B b) A.1.1 A.1.2.1 dL_law_360 hl2 (by decide) rfl (fun ls3 hl3 => ?_)
  refine lv_aload_n A.1.1 A.1.2.1 dL_law_362 rfl (lv_at hl3 4 rfl) ?_
  refine lw_cv (as := []) (rest := []) (k := 84) A.1 dL_law_363 cal_Y_thrown wd_838 wd_839 wd_840 rfl (ci := 14) rfl g4 (by decide) M2 hI2 hS2 hl3.1 z1 z2 (fun H3 locs3 hI3 hS3 => ?_)
  refine lv_iload (i := 5) A.1.1 A.1.2.1 dL_law_366 (lv_at hl3 1 rfl) ?_
  refine lv_icmp_eq (tgt := 373) A.1.1 A.1.2.1 dL_law_368 (by decide) (fun _ => ?_) (fun q => absurd rfl q)
  refine lv_iload (i := 5) A.1.1 A.1.2.1 dL_law_373 (lv_at hl3 1 rfl) ?_
  refine lv_if_ne (tgt := 390) A.1.1 A.1.2.1 dL_law_375 (by decide) (fun _ => ?_) (fun q => absurd q (by decide))
  refine lv_goto (tgt := 470) A.1.1 A.1.2.1 dL_law_390 (by decide) ?_
  exact lw_end A (lv_sub hl3 [2, 6] rfl) hS3 z1 z2

theorem law_turn (A : LA p l s m meth c b 4 xs B D aC) (hl : lv_has ls 7 (lw_lo B b)) (hI : pr_I B D aC h2 H) (hS : va_S (pr_A B) s.heap H locs) : W p l e room_1 s m #[Value.ref b] below meth c H locs h2.length (pr_sz h2) (lw_Z below #[Value.ref b] s) (F0 m 32 ls []) := by
  have hbA : ¬ pr_A B b := by show ¬ B.1 ≤ b; rw [A.2.2.2.1]; exact Nat.not_le.mpr A.2.2.1
  refine lv_aload_n A.1.1 A.1.2.1 dL_law_32 rfl (lv_at hl 4 rfl) ?_
  refine lv_iload A.1.1 A.1.2.1 dL_law_33 (lv_at hl 0 rfl) ?_
  refine va_sld A.1.1 A.1.2.1 A.2.1 A.2.2.1 hbA hS (by unfold vp_in; decide +kernel) dL_law_35 ?_
  refine lv_bipush (v := 15) A.1.1 A.1.2.1 dL_law_36 (by decide +kernel) ?_
  refine lv_iand A.1.1 A.1.2.1 dL_law_38 ?_
  obtain ⟨j, hj, e15⟩ := pk_andE (xs (0 : Int32).toNatClampNeg) (m := 15) 4 (by decide +kernel)
  rw [e15]
  match j, hj with
    | 0, _ => exact lv_tableIn (tgt := 112) A.1.1 A.1.2.1 dL_law_39 (by decide +kernel) (by decide +kernel) (off := 73) (by decide +kernel) (by decide) (case_0 A hl hI hS)
    | 1, _ => exact lv_tableIn (tgt := 181) A.1.1 A.1.2.1 dL_law_39 (by decide +kernel) (by decide +kernel) (off := 142) (by decide +kernel) (by decide) (case_1 A hl hI hS)
    | 2, _ => exact lv_tableIn (tgt := 194) A.1.1 A.1.2.1 dL_law_39 (by decide +kernel) (by decide +kernel) (off := 155) (by decide +kernel) (by decide) (case_2 A hl hI hS)
    | 3, _ => exact lv_tableIn (tgt := 207) A.1.1 A.1.2.1 dL_law_39 (by decide +kernel) (by decide +kernel) (off := 168) (by decide +kernel) (by decide) (case_3 A hl hI hS)
    | 4, _ => exact lv_tableIn (tgt := 248) A.1.1 A.1.2.1 dL_law_39 (by decide +kernel) (by decide +kernel) (off := 209) (by decide +kernel) (by decide) (case_4 A hl hI hS)
    | 5, _ => exact lv_tableIn (tgt := 261) A.1.1 A.1.2.1 dL_law_39 (by decide +kernel) (by decide +kernel) (off := 222) (by decide +kernel) (by decide) (case_5 A hl hI hS)
    | 6, _ => exact lv_tableIn (tgt := 274) A.1.1 A.1.2.1 dL_law_39 (by decide +kernel) (by decide +kernel) (off := 235) (by decide +kernel) (by decide) (case_6 A hl hI hS)
    | 7, _ => exact lv_tableIn (tgt := 287) A.1.1 A.1.2.1 dL_law_39 (by decide +kernel) (by decide +kernel) (off := 248) (by decide +kernel) (by decide) (case_7 A hl hI hS)
    | 8, _ => exact lv_tableIn (tgt := 312) A.1.1 A.1.2.1 dL_law_39 (by decide +kernel) (by decide +kernel) (off := 273) (by decide +kernel) (by decide) (case_8 A hl hI hS)
    | 9, _ => exact lv_tableIn (tgt := 337) A.1.1 A.1.2.1 dL_law_39 (by decide +kernel) (by decide +kernel) (off := 298) (by decide +kernel) (by decide) (case_9 A hl hI hS)
    | 10, _ => exact lv_tableIn (tgt := 393) A.1.1 A.1.2.1 dL_law_39 (by decide +kernel) (by decide +kernel) (off := 354) (by decide +kernel) (by decide) (case_10 A hl hI hS)
    | 11, _ => exact lv_tableIn (tgt := 406) A.1.1 A.1.2.1 dL_law_39 (by decide +kernel) (by decide +kernel) (off := 367) (by decide +kernel) (by decide) (case_11 A hl hI hS)
    | 12, _ => exact lv_tableIn (tgt := 419) A.1.1 A.1.2.1 dL_law_39 (by decide +kernel) (by decide +kernel) (off := 380) (by decide +kernel) (by decide) (case_12 A hl hI hS)
    | 13, _ => exact lv_tableIn (tgt := 444) A.1.1 A.1.2.1 dL_law_39 (by decide +kernel) (by decide +kernel) (off := 405) (by decide +kernel) (by decide) (case_13 A hl hI hS)
    | 14, _ => exact lv_tableIn (tgt := 457) A.1.1 A.1.2.1 dL_law_39 (by decide +kernel) (by decide +kernel) (off := 418) (by decide +kernel) (by decide) (case_14 A hl hI hS)
    | 15, _ => exact lv_tableOut (tgt := 470) A.1.1 A.1.2.1 dL_law_39 (Or.inr (by decide +kernel)) (by decide) (lw_end A (lv_sub hl [0, 4] rfl) hS (by rw [h2_len]; decide) (Nat.le_trans h2_sz (by decide)))
    | j + 16, hj => exact absurd hj (by omega)
theorem law_walk {L : Nat} (hL : L ≤ 4) (A : LA p l s m meth c b L xs B D aC) : W p l e room_1 s m #[Value.ref b] below meth c s.heap [] 0 0 (lw_Z below #[Value.ref b] s) (entryFrame m ([Value.ref b] : List Value).toArray 7) := by
  have hbA : ¬ pr_A B b := by show ¬ B.1 ≤ b; rw [A.2.2.2.1]; exact Nat.not_le.mpr A.2.2.1
  have hI0 : pr_I B D aC [] s.heap := ⟨fun k x hk => by simp at hk, by rw [A.2.2.2.1]; rfl⟩
  have hS0 : va_S (pr_A B) s.heap s.heap [] := va_S.rf
  have hl0 := lv_entry ([.ref b]) (n := 7) (Nat.le_of_ble_eq_true rfl)
  rw [lg_entry_eq]
  generalize (lg_sl ([.ref b]) ++ List.replicate (7 - (lg_sl ([.ref b])).length) Slot.unset).toArray = ls at hl0 ⊢
  have hl0 : lv_has ls 7 [(0, .ref b)] := hl0
  refine lw_new (h := []) A.1 dL_law_0 cf_10 wd_771 wd_772 wd_481 (fs := [.null, .null, .null, .null, .null, .null, .null, .null, .null, .null, .null, .null, .null, .int 0, .int 0, .int 0, .int 0]) rfl (by decide +kernel) hI0 hS0 (by decide) (by decide) (fun H1 hI1 hS1 => ?_)
  refine lv_dup A.1.1 A.1.2.1 dL_law_3 rfl ?_
  have hxz := hX_sz
  have hmz := hM_sz
  refine lw_ci (h := hx0) (h1 := hX) (as := []) (rest := [.ref 0]) (k := 0) A.1 dL_law_4 cal_0 wd_773 wd_774 rfl rfl rfl (Nat.le_of_ble_eq_true rfl) met_X hI1 hS1 hl0.1 (by rw [hX_len]; decide) (by generalize pr_sz hX = z at hxz ⊢; omega) (fun H2 locs2 hI2 hS2 => ?_)
  refine lv_astore_n (lv' := [(1, .ref (B.1 + 0)), (0, .ref b)]) A.1.1 A.1.2.1 dL_law_7 rfl hl0 (by decide) rfl (fun ls1 hl1 => ?_)
  refine lw_new (h := hX) A.1 dL_law_8 cf_14 wd_775 wd_776 wd_496 (fs := [.int 0, .null, .null, .null, .int 0, .null, .null, .null, .int 0, .null, .int 0, .int 0, .int 0, .int 0, .long 0, .int 0, .int 0, .int 0, .int 0, .null, .null, .null, .int 0, .int 0, .int 0, .int 0, .int 0, .null, .null, .null, .int 0, .null, .null, .null, .null, .null, .int 0, .null]) rfl (by decide +kernel) hI2 hS2 (by rw [hX_len]; decide) (by generalize pr_sz hX = z at hxz ⊢; omega) (fun H3 hI3 hS3 => ?_)
  refine lv_dup A.1.1 A.1.2.1 dL_law_11 rfl ?_
  rw [hX_len]
  refine lw_ci (h := hm0) (h1 := pr_hp rM) (as := []) (rest := [.ref 84]) (k := 84) A.1 dL_law_12 cal_15 wd_777 wd_778 rfl rfl rfl (Nat.le_of_ble_eq_true rfl) met_M hI3 hS3 hl1.1 (by rw [hM_len]; decide) (by generalize pr_sz (pr_hp rM) = z at hmz ⊢; omega) (fun H4 locs4 hI4 hS4 => ?_)
  refine lv_astore_n (lv' := [(2, .ref (B.1 + 84)), (1, .ref (B.1 + 0)), (0, .ref b)]) A.1.1 A.1.2.1 dL_law_15 rfl hl1 (by decide) rfl (fun ls2 hl2 => ?_)
  refine lv_iconst (v := 1) A.1.1 A.1.2.1 dL_law_16 (by decide) ?_
  refine lw_out (h := pr_hp rM) A.1 dL_law_17 wd_435 hI4 hS4 (by rw [hM_len]; decide) (by generalize pr_sz (pr_hp rM) = z at hmz ⊢; omega) (fun H5 hI5 hS5 => ?_)
  rw [hM_len]
  refine lv_astore_n (lv' := [(3, .ref (B.1 + 138)), (2, .ref (B.1 + 84)), (1, .ref (B.1 + 0)), (0, .ref b)]) A.1.1 A.1.2.1 dL_law_19 rfl hl2 (by decide) rfl (fun ls3 hl3 => ?_)
  refine lv_iconst (v := 0) A.1.1 A.1.2.1 dL_law_20 (by decide) ?_
  refine lv_istore (i := 4) (lv' := lw_lo B b) A.1.1 A.1.2.1 dL_law_21 hl3 (by decide) rfl (fun ls4 hl4 => ?_)
  refine lv_iload A.1.1 A.1.2.1 dL_law_23 (lv_at hl4 0 rfl) ?_
  refine lv_aload_n A.1.1 A.1.2.1 dL_law_25 rfl (lv_at hl4 4 rfl) ?_
  refine va_slen A.1.1 A.1.2.1 A.2.1 A.2.2.1 hbA hS5 dL_law_26 ?_
  refine lv_iconst (v := 4) A.1.1 A.1.2.1 dL_law_27 (by decide) ?_
  refine lv_isub A.1.1 A.1.2.1 dL_law_28 ?_
  refine lv_icmp_gt (tgt := 476) A.1.1 A.1.2.1 dL_law_29 (by decide) (fun _ => ?_) (fun c9 => ?_)
  · exact lw_fin A hS5 (show h2.length ≤ 600002 by rw [h2_len]; decide) (show pr_sz h2 ≤ 7302231 from Nat.le_trans h2_sz (by decide))
  · have hL4 : L = 4 := by
      rcases (show L = 0 ∨ L = 1 ∨ L = 2 ∨ L = 3 ∨ L = 4 by omega) with rfl | rfl | rfl | rfl | rfl
      · exact absurd (by decide +kernel) c9
      · exact absurd (by decide +kernel) c9
      · exact absurd (by decide +kernel) c9
      · exact absurd (by decide +kernel) c9
      · rfl
    subst hL4
    exact law_turn A hl4 hI5 hS5
end LAWX
