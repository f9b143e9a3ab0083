/-! THE LAW -/
/-! THE CLAIM OUT OF ONE WALK OF THE LAW'S BODY. Your part is whole_start (and what it stands on); all else here is the same for every law, but numbers. -/
def R_law : String := "InferResolveLaw"
def lw_P (b : Addr) (xs : List Int32) (args : Array Value) (s : State) : Prop := args = #[.ref b] ∧ s.IntsAt b xs ∧ xs.length ≤ 4 ∧ (Jvm.Cond.and given_1 narrow_1).before args s = true
def lw_Q (_ : Array Value) (s : State) (o : Outcome) (t : State) : Prop := o = .returned (some (.int 1)) ∧ Framed s o t [] 600002 7302231
def lw_Z (below : List Frame) (a : Array Value) (s : State) : State → Prop := fun t => ∃ o, t.status = .running ∧ Ended t below o ∧ lw_Q a s o t
/-- the law's own end, with 1 on the stack, nothing written that was there before, its room as the claim has it -/
theorem lw_ret {p : Program} {l : Launch} {e : Env} {s : State} {m : MethodId} {below : List Frame} {meth : Method} {c : Code} {b : Nat} (hx : p.tables.exec = Jvm.exec) (hb : c.code = code) (hr : meth.sig.returnType = ret) (hlocks : meth.locks = false) {pc : Nat} {H : Heap} {ls : Array Slot} (hdg : decode code pc = .ok (.ireturn, 1)) : W p l e room_1 s m #[Value.ref b] below meth c H [] 600002 7302231 (lw_Z below #[Value.ref b] s) (F0 m pc ls [.int 1]) := by
  intro T hT X
  obtain ⟨fs, hret, hrun, hended, hW, hframe⟩ := X.leave (v := some (.int 1)) (hlocks := hlocks) (fun h => by rw [hr] at h; cases h)
  have hmeth' : T.vm.method? m = some meth := X.method'
  refine ⟨T.setFrames fs, ?_, .returned (some (.int 1)), hrun, hended, rfl, ⟨_, rfl⟩, hW, hframe⟩
  jvm_step X.here [X.here.top, hx, hb, hdg, hmeth', hr, ret, narrow_b1]
  (try refine ⟨rfl, ?_⟩); (try refine ⟨rfl, ?_⟩)
  first | (intro acts; rw [hret _ acts rfl rfl rfl]) | rw [hret _ _ rfl rfl rfl]
  exact Steps.refl _
/-- what holds at the law's entry: the machine, the code, the tables' words (any of lw_tbl by 'hts w (by decide +kernel)'), the script of L ints xs at the cell b, what the Statement gives of the start (any of its parts by flat_of_before) -/
def lw_At (p : Program) (s : State) (m : MethodId) (meth : Method) (c : Code) (b L : Nat) (xs : Nat → Int32) : Prop :=
  p.tables.exec = Jvm.exec ∧ c.code = code ∧ meth.sig.returnType = ret ∧ c.maxLocals = 7 ∧ s.vm.findClass R_law = some m.cls ∧ (∀ w ∈ lw_tbl, w.before #[Value.ref b] s = true) ∧ va_X b L xs s s.heap ∧ b < s.heap.size ∧ meth.locks = false ∧ (Jvm.Cond.and given_1 narrow_1).before #[Value.ref b] s = true
/-- what is known where the law runs -/
def LC (p : Program) (s : State) (m : MethodId) (args : Array Value) (c : Code) (B : pr_B) (D : va_G) (aC : Nat → ClassId) : Prop :=
  p.tables.exec = Jvm.exec ∧ c.code = code ∧ c.maxLocals = 7 ∧ s.vm.findClass R_law = some m.cls ∧ (∀ w ∈ pr_G, w.before args s = true) ∧ pr_K B D aC s ∧ (∀ w ∈ pz_bad, va_Nw w s)
section LAWW
variable {p : Program} {l : Launch} {e : Env} {s : State} {m : MethodId} {args : Array Value} {below : List Frame} {meth : Method} {c : Code} {Q : State → Prop} {B : pr_B} {D : va_G} {aC : Nat → ClassId} {H : Heap} {locs : List Loc} {ls : Array Slot} {pc : Nat} {h : pr_H}
theorem lw_cv {idx k n ci N : Nat} {m2 : pr_M} {T : u_T} {fs as rest : List Value} {v1 : Option Value} {h1 : pr_H} (C : LC p s m args c B D aC) (hd : decode code pc = .ok (.invokevirtual idx, 3)) (hc : pr_cal m2 n) (hl : Cond.methodLink R_law idx m2.1 ∈ pr_G) (hi : Cond.instanceMethod m2.1 ∈ pr_G) (hse : Cond.selects m2.1.cls m2.1 m2.1 ∈ pr_G) (hn : as.length = n)
    (hcl : pr_cl[ci]? = some (m2.1.cls, T, N)) (ho : h[k]? = some (.inr (ci, fs))) (hst : (rest.map fun v => v.category).sum ≤ 8) (hM : pr_Met 13 m2 (.ref k :: as) h v1 h1) (hI : pr_I B D aC h H) (hS : va_S (pr_A B) s.heap H locs) (hsz : ls.size = 7) (h6 : h1.length ≤ 600002) (h7 : pr_sz h1 ≤ 7302231)
    (kk : ∀ (H1 : Heap) (locs1 : List Loc), pr_I B D aC h1 H1 → va_S (pr_A B) s.heap H1 locs1 → W p l e room_1 s m args below meth c H1 locs1 h1.length (pr_sz h1) Q (F0 m (pc + 3) ls ((v1.toList ++ rest).map (pr_v B)))) : W p l e room_1 s m args below meth c H locs h.length (pr_sz h) Q (F0 m pc ls ((as.reverse ++ .ref k :: rest).map (pr_v B))) := by
  obtain ⟨hok, hini, hy, hmx⟩ := hc
  obtain ⟨m1, m2', m3⟩ := hM
  obtain ⟨hx, hb, hml, hown, hts, hK, hbad⟩ := C
  have a1 : h.length + (h1.length - h.length) = h1.length := by omega
  have a2 : pr_sz h + (pr_sz h1 - pr_sz h) = pr_sz h1 := by omega
  rw [← a1] at h6 kk
  rw [← a2] at h7 kk
  refine pr_cont (rest := rest) (va_runV (As := as.map (pr_v B)) (rest := rest.map (pr_v B)) (Ts := pr_G) (nL := 7) ⟨hx, hb, hml, hown, hts⟩ (m3 l D aC B) ⟨callB_of n hts (pr_good hok (fun _ h9 => h9)) rfl rfl rfl (hts _ hini) (hts _ hl) hy ⟨by show 13 + 1 ≤ 2048; decide, by show 8 + (m2.2.2.1 + 11) + 13 * 80 ≤ 84000; omega⟩, hts _ hi, hts _ hse⟩
    ⟨pr_blind, va_recv hK.1 (hI.p ho (pr_j_cl hcl)) hcl (q0 := 0) rfl, fun U hU hW => ⟨rfl, by rw [hU]; exact hI, hK.to hS hU hW⟩⟩ rfl (by rw [List.length_map]; exact hn) hsz (by simp [pr_v]) (lv_room (pr_catS hst)) hd ⟨h6, h7⟩) hS ?_
  exact kk
theorem lw_ci {idx k n : Nat} {m2 : pr_M} {as rest : List Value} {h1 : pr_H} (C : LC p s m args c B D aC) (hd : decode code pc = .ok (.invokespecial idx, 3)) (hc : pr_cal m2 n) (hl : Cond.methodLink R_law idx m2.1 ∈ pr_G) (hi : Cond.instanceMethod m2.1 ∈ pr_G) (hin : m2.1.name = "<init>") (hret : m2.2.2.2 = none) (hn : as.length = n)
    (hst : (rest.map fun v => v.category).sum ≤ 8) (hM : pr_Met 13 m2 (.ref k :: as) h none h1) (hI : pr_I B D aC h H) (hS : va_S (pr_A B) s.heap H locs) (hsz : ls.size = 7) (h6 : h1.length ≤ 600002) (h7 : pr_sz h1 ≤ 7302231)
    (kk : ∀ (H1 : Heap) (locs1 : List Loc), pr_I B D aC h1 H1 → va_S (pr_A B) s.heap H1 locs1 → W p l e room_1 s m args below meth c H1 locs1 h1.length (pr_sz h1) Q (F0 m (pc + 3) ls (rest.map (pr_v B)))) : W p l e room_1 s m args below meth c H locs h.length (pr_sz h) Q (F0 m pc ls ((as.reverse ++ .ref k :: rest).map (pr_v B))) := by
  obtain ⟨hok, hini, hy, hmx⟩ := hc
  obtain ⟨y2, c2, l2, r2⟩ := m2
  dsimp only at hret
  subst hret
  have hmx : l2 ≤ 61 := hmx
  obtain ⟨m1, m2', m3⟩ := hM
  obtain ⟨hx, hb, hml, hown, hts, hK, hbad⟩ := C
  have a1 : h.length + (h1.length - h.length) = h1.length := by omega
  have a2 : pr_sz h + (pr_sz h1 - pr_sz h) = pr_sz h1 := by omega
  rw [← a1] at h6 kk
  rw [← a2] at h7 kk
  refine pr_cont (v1 := none) (rest := rest) (va_runI (As := as.map (pr_v B)) (rest := rest.map (pr_v B)) (Ts := pr_G) (nL := 7) ⟨hx, hb, hml, hown, hts⟩ (m3 l D aC B) ⟨callB_of n hts (pr_good hok (fun _ h9 => h9)) rfl rfl rfl (hts _ hini) (hts _ hl) hy ⟨by show 13 + 1 ≤ 2048; decide, by show 8 + (l2 + 11) + 13 * 80 ≤ 84000; omega⟩, hin, hts _ hi⟩
    ⟨pr_blind, fun U hU hW => ⟨rfl, by rw [hU]; exact hI, hK.to hS hU hW⟩⟩ rfl (by rw [List.length_map]; exact hn) hsz (by simp [pr_v]) (lv_room (pr_catS hst)) hd ⟨h6, h7⟩) hS ?_
  exact kk
theorem lw_new {idx ci N : Nat} {CC : String} {T : u_T} {ty : Nat → FieldType} {fs : List Value} {st : List Value} (C : LC p s m args c B D aC) (hd : decode code pc = .ok (.new idx, 3)) (hC : pr_cf ci CC T N ty) (hcl : Cond.classLink R_law idx CC ∈ pr_G) (hins : Cond.instantiable CC N ∈ pr_G) (hini : Cond.initialized CC ∈ pr_G) (hlen : fs.length = N) (hfs : ∀ j, j < N → fs[j]? = some (defaultValue (ty j))) (hI : pr_I B D aC h H) (hS : va_S (pr_A B) s.heap H locs) (h6 : h.length + 1 ≤ 600002) (h7 : pr_sz h + N ≤ 7302231)
    (kk : ∀ (H1 : Heap), pr_I B D aC (h ++ [(.inr (ci, fs) : pr_C)]) H1 → va_S (pr_A B) s.heap H1 locs → W p l e room_1 s m args below meth c H1 locs (h ++ [(.inr (ci, fs) : pr_C)]).length (pr_sz (h ++ [(.inr (ci, fs) : pr_C)])) Q (F0 m (pc + 3) ls (.ref (B.1 + h.length) :: st))) : W p l e room_1 s m args below meth c H locs h.length (pr_sz h) Q (F0 m pc ls st) := by
  obtain ⟨hx, hb, hml, hown, hts, hK, hbad⟩ := C
  have hKn := hK.1.1 ci _ hC.1
  rw [pr_sz_push, List.length_append, List.length_singleton, show pr_s (.inr (ci, fs)) = N from hlen] at kk
  refine W.newcK hx hb hown (hts _ hcl) (hts _ hins) (hts _ hini) rfl hd h6 h7 hKn.2.1 hI.2 fun H1 kC hkC e1 z1 o1 => ?_
  refine kk H1 (hI.push (fun _ => ?_) (by rw [z1]) (fun q hq => o1 q hq)) ⟨Nat.le_trans hS.1 (by rw [z1, hI.2]; omega), fun x q1 q2 => (o1 x (by have := hS.1; have := hI.2; omega)).trans (hS.2.1 x q1 q2), hS.2.2⟩
  refine ⟨_, hC.1, (u_born ty hts hC.2.1 hKn hkC e1 hC.2.2.1).to fun j hj => ?_⟩
  show defaultValue (ty j) = vp_V (fs.map (pr_v B)) j
  simp [vp_V, hfs j hj, pr_dv]
theorem lw_out {st : List Value} (C : LC p s m args c B D aC) (hd : decode code pc = .ok (.newarray .long, 2)) (hw : Cond.arrayClass .long ∈ pr_G) (hI : pr_I B D aC h H) (hS : va_S (pr_A B) s.heap H locs) (h6 : h.length + 1 ≤ 600002) (h7 : pr_sz h + 1 ≤ 7302231)
    (kk : ∀ (H1 : Heap), pr_I B D aC (h ++ [(.inl (1, 1, .inr (.inl (fun _ => 0))) : pr_C)]) H1 → va_S (pr_A B) s.heap H1 locs → W p l e room_1 s m args below meth c H1 locs (h ++ [(.inl (1, 1, .inr (.inl (fun _ => 0))) : pr_C)]).length (pr_sz (h ++ [(.inl (1, 1, .inr (.inl (fun _ => 0))) : pr_C)])) Q (F0 m (pc + 2) ls (.ref (B.1 + h.length) :: st))) : W p l e room_1 s m args below meth c H locs h.length (pr_sz h) Q (F0 m pc ls (.int 1 :: st)) := by
  obtain ⟨hx, hb, hml, hown, hts, hK, hbad⟩ := C
  rw [pr_sz_push, List.length_append, List.length_singleton, show pr_s (.inl (1, 1, .inr (.inl (fun _ => (0 : Int64))))) = 1 from rfl] at kk
  refine va_newaK (N := 1) hx hb (atype := .long) (hts _ hw) rfl hd rfl (by decide) (by decide +kernel) (by decide) h6 h7 hI.2 fun H1 cA e1 z1 o1 hAr hNm => ?_
  have hcA : cA = aC 1 := by
    have h1 := (hK.1.2 1 _ (pr_tl_at rfl)).2
    exact Option.some.inj (hNm.symm.trans h1)
  subst hcA
  exact kk H1 (hI.push (fun _ => e1) (by rw [z1]) (fun q hq => o1 q hq)) ⟨Nat.le_trans hS.1 (by rw [z1, hI.2]; omega), fun x q1 q2 => (o1 x (by have := hS.1; have := hI.2; omega)).trans (hS.2.1 x q1 q2), hS.2.2⟩
theorem lw_cL (hlt : l.stackTraces = false) {n : Int32} {o : Nat} {rest : List Value} (C : LC p s m args c B D aC) (hd : decode code pc = .ok (.invokestatic 60, 3)) (hst : (rest.map fun v => v.category).sum ≤ 8) (hI : pr_I B D aC h2 H) (hS : va_S (pr_A B) s.heap H locs) (hsz : ls.size = 7)
    (kk : ∀ (H1 : Heap) (locs1 : List Loc), pr_I B D aC (h2 ++ [pr_junk]) H1 → va_S (pr_A B) s.heap H1 locs1 → W p l e room_1 s m args below meth c H1 locs1 (h2 ++ [pr_junk]).length (pr_sz (h2 ++ [pr_junk])) Q (F0 m (pc + 3) ls (.int 1 :: rest.map (pr_v B)))) : W p l e room_1 s m args below meth c H locs h2.length (pr_sz h2) Q (F0 m pc ls (.ref (B.1 + o) :: .int n :: .ref (B.1 + 0) :: rest.map (pr_v B))) := by
  obtain ⟨hx, hb, hml, hown, hts, hK, hbad⟩ := C
  have hl2 := h2_len
  have hs2 := h2_sz
  have e1 : (h2 ++ [pr_junk]).length = h2.length + 1 := by rw [List.length_append, List.length_singleton]
  have e6 : pr_s pr_junk = 6 := rfl
  have e2 : pr_sz (h2 ++ [pr_junk]) = pr_sz h2 + 6 := by rw [pr_sz_push, e6]
  rw [e1, e2] at kk
  have hgood : GoodIn pr_G (.codeWith yL_letter cL_letter 4 (some .int) [(0, 9, 12, 13)] :: pr_G) := fun w hw => by
    rcases List.mem_cons.mp hw with rfl | hw
    · exact ⟨wd_881, (pr_G_in wd_881).2⟩
    · exact ⟨hw, (pr_G_in hw).2⟩
  have h6 : h2.length + 1 ≤ 600002 := by rw [hl2]; decide
  have h7 : pr_sz h2 + 6 ≤ 7302231 := by
    generalize pr_sz h2 = z at hs2 ⊢
    omega
  refine pr_cont (v1 := some (.int 1)) (h1 := h2 ++ [pr_junk]) (mc := 1) (ms := 6) (rest := rest) (vx_runSW (R := room_1) (hh := [(0, 9, 12, 13)]) (bytes := cL_letter) (maxL := 4) (ret := some .int) (n := 3) (index := 60) (own := R_law) (As := [.ref (B.1 + 0), .int n, .ref (B.1 + o)]) (rest := rest.map (pr_v B)) (Ts := pr_G) (nL := 7) ⟨hx, hb, hml, hown, hts⟩ (letterL_met hlt D aC B n o) ⟨⟨rfl, rfl, by decide, by decide, pay_in hts hgood, List.mem_cons_self⟩, hts _ wd_881, hts _ wd_880, ⟨by decide, by decide⟩, fun sig hsig => ?_, hts _ wd_833, hts _ wd_834⟩
    ⟨fun a U g mk q => ⟨q.1, ⟨q.2.1.1, q.2.1.2.calling⟩, pz_bad_same (u := U) (U := U.calling g mk a) rfl q.2.2⟩, fun U hU hW => ⟨rfl, ⟨by rw [hU]; exact hI, hK.to hS hU hW⟩, pz_bad_warm hW hbad⟩⟩ rfl rfl hsz rfl (lv_room (pr_catS hst)) hd ⟨h6, h7⟩) hS ?_
  · have h8 : (parseMethodDescriptor yL_letter.desc).map (fun d => d.parameters.length) = some 3 := by decide +kernel
    rw [hsig] at h8
    exact (Option.some.inj h8).symm
  · exact kk
end LAWW
