/-! THE START: what the Statement gives, as the walk wants it -/
def pz_tm (i : Nat) : Term := .string "InferResolve$Kinds" (match i with
  | 0 => 36
  | 1 => 42
  | 2 => 44
  | _ => 46)
def pz_fl : List Cond := flatC (Jvm.Cond.and given_1 narrow_1)
set_option maxRecDepth 100000 in
theorem pz_ex : ∀ i, i < 4 → Cond.exactly (pz_tm i) "java/lang/String" ∈ pz_fl := by decide +kernel
set_option maxRecDepth 100000 in
theorem pz_co : ∀ i, i < 4 → Cond.eq (.field (pz_tm i) "java/lang/String" "coder" "B") (.int 0) ∈ pz_fl := by decide +kernel
set_option maxRecDepth 100000 in
theorem pz_ar : ∀ i, i < 4 → Cond.arrayOf (.field (pz_tm i) "java/lang/String" "value" "[B") .byte ∈ pz_fl := by decide +kernel
set_option maxRecDepth 100000 in
theorem pz_le : ∀ i, i < 4 → Cond.eq (.length (.field (pz_tm i) "java/lang/String" "value" "[B")) (.int (Int32.ofNat (pz_len.getD i 0))) ∈ pz_fl := by decide +kernel
set_option maxRecDepth 100000 in
theorem pz_el : ∀ i, i < 4 → ∀ j, j < pz_len.getD i 0 → Cond.eq (.elem (.field (pz_tm i) "java/lang/String" "value" "[B") (.int (Int32.ofNat j))) (.int ((pz_byt.getD i []).getD j 0)) ∈ pz_fl := by decide +kernel
set_option maxRecDepth 100000 in
theorem pz_ne : ∀ i, i < 4 → ∀ j, j < 4 → i ≠ j → (Cond.not (Cond.eq (pz_tm i) (pz_tm j)) ∈ pz_fl ∨ Cond.not (Cond.eq (pz_tm j) (pz_tm i)) ∈ pz_fl) := by decide +kernel
theorem pz_in : ∀ q ∈ pz_lits, Cond.stringRef q.1 q.2.1 q.2.2.1 ∈ lw_tbl := by decide +kernel
theorem pz_nm_in : ∀ q ∈ pz_nm, Cond.methodLinkNest q.1 q.2.1 q.2.2.1 q.2.2.2 ∈ lw_tbl := by decide +kernel
theorem pz_nf_in : ∀ q ∈ pz_nf, Cond.fieldLinkNest q.1 q.2.1 q.2.2.1 q.2.2.2.1 q.2.2.2.2.1 q.2.2.2.2.2 ∈ lw_tbl := by decide +kernel
/-- the classes -/
theorem st_cl {s : State} {args : Array Value} (hts : ∀ w ∈ pr_G, w.before args s = true) : ∃ D : va_G, ∀ (k : Nat) (q : vw_C), pr_cl[k]? = some q → u_Kn s q.1 q.2.1 q.2.2 (D.1 k) (D.2 k) := by
  have h0 : ∀ k : Nat, ∃ r : ClassId × (Nat → Nat), ∀ q : vw_C, pr_cl[k]? = some q → u_Kn s q.1 q.2.1 q.2.2 r.1 r.2 := by
    intro k
    match k with
    | 0 =>
      obtain ⟨a, i, hk⟩ := u_known (C := RX0) (T := TX0) (N := 9) (n := 9) hts cf_0.2.1 (hts _ wd_31)
      exact ⟨(a, i), fun q hq => by cases hq; exact hk⟩
    | 1 =>
      obtain ⟨a, i, hk⟩ := u_known (C := RX1) (T := TX1) (N := 10) (n := 10) hts cf_1.2.1 (hts _ wd_49)
      exact ⟨(a, i), fun q hq => by cases hq; exact hk⟩
    | 2 =>
      obtain ⟨a, i, hk⟩ := u_known (C := RX2) (T := TX2) (N := 9) (n := 9) hts cf_2.2.1 (hts _ wd_12)
      exact ⟨(a, i), fun q hq => by cases hq; exact hk⟩
    | 3 =>
      obtain ⟨a, i, hk⟩ := u_known (C := RX3) (T := TX3) (N := 3) (n := 3) hts cf_3.2.1 (hts _ wd_55)
      exact ⟨(a, i), fun q hq => by cases hq; exact hk⟩
    | 4 =>
      obtain ⟨a, i, hk⟩ := u_known (C := RX4) (T := TX4) (N := 7) (n := 7) hts cf_4.2.1 (hts _ wd_37)
      exact ⟨(a, i), fun q hq => by cases hq; exact hk⟩
    | 5 =>
      obtain ⟨a, i, hk⟩ := u_known (C := RX5) (T := TX5) (N := 15) (n := 15) hts cf_5.2.1 (hts _ wd_19)
      exact ⟨(a, i), fun q hq => by cases hq; exact hk⟩
    | 6 =>
      obtain ⟨a, i, hk⟩ := u_known (C := RX6) (T := TX6) (N := 5) (n := 5) hts cf_6.2.1 (hts _ wd_43)
      exact ⟨(a, i), fun q hq => by cases hq; exact hk⟩
    | 7 =>
      obtain ⟨a, i, hk⟩ := u_known (C := RX7) (T := TX7) (N := 2) (n := 2) hts cf_7.2.1 (hts _ wd_4)
      exact ⟨(a, i), fun q hq => by cases hq; exact hk⟩
    | 8 =>
      obtain ⟨a, i, hk⟩ := u_known (C := RX8) (T := TX8) (N := 7) (n := 7) hts cf_8.2.1 (hts _ wd_61)
      exact ⟨(a, i), fun q hq => by cases hq; exact hk⟩
    | 9 =>
      obtain ⟨a, i, hk⟩ := u_known (C := RX9) (T := TX9) (N := 1) (n := 1) hts cf_9.2.1 (hts _ wd_25)
      exact ⟨(a, i), fun q hq => by cases hq; exact hk⟩
    | 10 =>
      obtain ⟨a, i, hk⟩ := u_known (C := RX10) (T := TX10) (N := 17) (n := 17) hts cf_10.2.1 (hts _ wd_772)
      exact ⟨(a, i), fun q hq => by cases hq; exact hk⟩
    | 11 =>
      obtain ⟨a, i, hk⟩ := u_known (C := RX11) (T := TX11) (N := 4) (n := 4) hts cf_11.2.1 (hts _ wd_151)
      exact ⟨(a, i), fun q hq => by cases hq; exact hk⟩
    | 12 =>
      obtain ⟨a, i, hk⟩ := u_known (C := RX12) (T := TX12) (N := 5) (n := 5) hts cf_12.2.1 (hts _ wd_140)
      exact ⟨(a, i), fun q hq => by cases hq; exact hk⟩
    | 13 =>
      obtain ⟨a, i, hk⟩ := u_known (C := RX13) (T := TX13) (N := 12) (n := 12) hts cf_13.2.1 (hts _ wd_133)
      exact ⟨(a, i), fun q hq => by cases hq; exact hk⟩
    | 14 =>
      obtain ⟨a, i, hk⟩ := u_known (C := RX14) (T := TX14) (N := 38) (n := 38) hts cf_14.2.1 (hts _ wd_776)
      exact ⟨(a, i), fun q hq => by cases hq; exact hk⟩
    | k + 15 => exact ⟨(0, fun _ => 0), fun q hq => by simp [pr_cl] at hq⟩
  obtain ⟨f, hf⟩ := Classical.axiomOfChoice h0
  exact ⟨(fun k => (f k).1, fun k => (f k).2), fun k q hq => hf k q hq⟩
/-- the arrays -/
theorem st_ar {s : State} {args : Array Value} {ty : FieldType} (h : (Cond.arrayClass ty).before args s = true) (hra : ∀ U cA, va_RA U cA ty = (U.vm.findClass ("[" ++ ty.toString) = some cA)) : ∃ cA : ClassId, ArrOfT s cA ty ∧ va_RA s cA ty := by
  obtain ⟨cA, kA, comp, hfind, hk, hkind⟩ := Cond.arrayClass_spec h
  exact ⟨cA, fun n z => ⟨fun k h => (by cases h), kA, hk, comp, hkind⟩, by rw [hra]; exact hfind⟩
theorem st_K {s : State} {args : Array Value} (hts : ∀ w ∈ pr_G, w.before args s = true) : ∃ (D : va_G) (aC : Nat → ClassId), va_K D pr_cl (pr_tl aC) s := by
  obtain ⟨D, hD⟩ := st_cl hts
  obtain ⟨a0, h0⟩ := st_ar (hts _ wd_138) (fun _ _ => rfl)
  obtain ⟨a1, h1⟩ := st_ar (hts _ wd_435) (fun _ _ => rfl)
  obtain ⟨a2, h2⟩ := st_ar (hts _ wd_145) (fun _ _ => rfl)
  obtain ⟨a3, h3⟩ := st_ar (hts _ wd_147) (fun _ _ => rfl)
  refine ⟨D, fun t => match t with
    | 0 => a0
    | 1 => a1
    | 2 => a2
    | _ => a3, hD, fun k q hq => ?_⟩
  match k, hq with
  | 0, hq => cases hq; exact h0
  | 1, hq => cases hq; exact h1
  | 2, hq => cases hq; exact h2
  | 3, hq => cases hq; exact h3
  | k + 4, hq => simp [pr_tl, pr_tys] at hq
/-- texts and statics -/
theorem st_Z {s : State} {b : Nat} (hts : ∀ w ∈ lw_tbl, w.before #[Value.ref b] s = true) (hgv : (Jvm.Cond.and given_1 narrow_1).before #[Value.ref b] s = true) : ∃ B : pr_B, B.1 = s.heap.size ∧ pr_Z B s := by
  have hs : ∀ w ∈ pz_fl, w.before #[Value.ref b] s = true := flat_of_before _ hgv
  have hA : ∀ a : Nat, a < s.heap.size → ¬ (fun q : Nat => s.heap.size ≤ q) a := fun a h => Nat.not_le.mpr h
  obtain ⟨adK, adV, hS, hev⟩ := vk_Sof (args := #[Value.ref b]) (s := s) (N := 4) (tm := pz_tm) (len := pz_len) (byt := pz_byt) (A := fun q : Nat => s.heap.size ≤ q) (by decide +kernel) (fun i hi => hs _ (pz_ex i hi)) (fun i hi => hs _ (pz_co i hi)) (fun i hi => hs _ (pz_ar i hi)) (fun i hi => hs _ (pz_le i hi)) (fun i hi j hj => hs _ (pz_el i hi j hj)) (fun i j hi hj hij => (pz_ne i hi j hj hij).elim (fun h => Or.inl (hs _ h)) (fun h => Or.inr (hs _ h))) hA
  obtain ⟨a4, -, -, -, q1, -⟩ := Cond.exactly_spec (args := #[Value.ref b]) (first := s) (o := none) (s := s) (idx := []) (t := .string "InferResolve" 199) (cls := "java/lang/String") (hs _ (by decide +kernel))
  have hC : va_Z "java/lang/String" "COMPACT_STRINGS" "Z" (.int 1) (fun q : Nat => s.heap.size ≤ q) s s.heap := va_Zof (args := #[Value.ref b]) (hts _ (by decide +kernel)) (hts _ (by decide +kernel)) (va_eqt (hs (.eq (.static "java/lang/String" "COMPACT_STRINGS" "Z") (.int 1)) (by decide +kernel))) hA
  have hU : vx_Zq Bundle.tN "UNASSIGNED_STACK" Bundle.steD (fun q : Nat => s.heap.size ≤ q) s s.heap := vx_Zqof (args := #[Value.ref b]) (hts _ (by decide +kernel)) (hts _ (by decide +kernel)) (hs _ (by decide +kernel)) hA
  have hV : vx_Zq Bundle.tN "SUPPRESSED_SENTINEL" Bundle.listD (fun q : Nat => s.heap.size ≤ q) s s.heap := vx_Zqof (args := #[Value.ref b]) (hts _ (by decide +kernel)) (hts _ (by decide +kernel)) (hs _ (by decide +kernel)) hA
  have hF : va_Zq "jdk/internal/util/Preconditions" "SIOOBE_FORMATTER" "Ljava/util/function/BiFunction;" (fun q : Nat => s.heap.size ≤ q) s s.heap := va_Zqof (args := #[Value.ref b]) (hts _ (by decide +kernel)) (hts _ (by decide +kernel)) (hs _ (by decide +kernel)) hA
  have e0 := hev 0 (by decide)
  have e1 := hev 1 (by decide)
  have e2 := hev 2 (by decide)
  have e3 := hev 3 (by decide)
  have m0 := va_eqR (hs (.eq (.string "InferResolve$Kinds" 36) (.string "InferResolveModel" 118)) (by decide +kernel)) e0
  have m1 := va_eqR (hs (.eq (.string "InferResolve$Kinds" 42) (.string "InferResolveModel" 127)) (by decide +kernel)) e1
  have m2 := va_eqR (hs (.eq (.string "InferResolve$Kinds" 44) (.string "InferResolveModel" 129)) (by decide +kernel)) e2
  have m3 := va_eqR (hs (.eq (.string "InferResolve$Kinds" 46) (.string "InferResolveModel" 131)) (by decide +kernel)) e3
  have key : ∀ fo : Option Nat, va_Z "jdk/internal/util/Preconditions" "SIOOBE_FORMATTER" "Ljava/util/function/BiFunction;" (match fo with
      | none => .null
      | some a => .ref a) (fun q : Nat => s.heap.size ≤ q) s s.heap → ∃ B : pr_B, B.1 = s.heap.size ∧ pr_Z B s := by
    intro fo hfo
    refine ⟨(s.heap.size, fun i => if i < 4 then adK i else if i = 4 then a4 else adV (i - 100), fo), rfl, ⟨fun i hi => ?_, fun i j hi hj hij => ?_⟩, hC, hfo, ?_, hU, hV, fun q hq => va_Nw.of rfl (hts _ (pz_nm_in q hq)), fun q hq => va_Nw.of rfl (hts _ (pz_nf_in q hq))⟩
    · have g := hS.1 i hi
      have n1 : ¬ 100 + i < 4 := by omega
      have n2 : ¬ 100 + i = 4 := by omega
      have n3 : 100 + i - 100 = i := by omega
      simp only [if_pos hi, if_neg n1, if_neg n2, n3]
      exact g
    · simp only [if_pos hi, if_pos hj] at hij
      exact hS.2 i j hi hj hij
    · have hz : ∀ q ∈ pz_lits, (Cond.stringRef q.1 q.2.1 q.2.2.1).before #[Value.ref b] s = true := fun q hq => hts _ (pz_in q hq)
      intro q hq
      have hw := hz q hq
      simp only [pz_lits, List.mem_cons, List.not_mem_nil, or_false] at hq
      rcases hq with rfl | rfl | rfl | rfl | rfl | rfl | rfl | rfl | rfl
      · exact vk_R.of hw e0
      · exact vk_R.of hw e1
      · exact vk_R.of hw e2
      · exact vk_R.of hw e3
      · exact vk_R.of hw m0
      · exact vk_R.of hw m1
      · exact vk_R.of hw m2
      · exact vk_R.of hw m3
      · exact vk_R.of hw q1
  rcases hF with h | ⟨t, h⟩
  · exact key none h
  · exact key (some t) h
theorem whole_start {p : Program} {e : Env} {s : State} {m : MethodId} {below : List Frame} {meth : Method} {c : Code} (l : Launch) (hlt : l.stackTraces = false) {b L : Nat} {xs : Nat → Int32} (hL : L ≤ 4) (C0 : lw_At p s m meth c b L xs) : W p l e room_1 s m #[Value.ref b] below meth c s.heap [] 0 0 (lw_Z below #[Value.ref b] s) (entryFrame m ([Value.ref b] : List Value).toArray 7) := by
  obtain ⟨hx, hb, hr, hml, hown, hts, hX, hbl, hlocks, hgv⟩ := C0
  have hg : ∀ w ∈ pr_G, w.before #[Value.ref b] s = true := fun w hw => hts w (pr_G_in hw).1
  obtain ⟨D, aC, hK⟩ := st_K hg
  obtain ⟨B, hB, hZ⟩ := st_Z hts hgv
  exact law_walk hL ⟨⟨hx, hb, hml, hown, hg, ⟨hK, hZ⟩, fun w hw => va_Nw.of (pz_bad_on w hw) (hts w (pz_bad_in w hw))⟩, hX, hbl, hB, hr, hlocks, hlt⟩
