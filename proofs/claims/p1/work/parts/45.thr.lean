/-! letter() of the class, with nothing written, throws; the law's own letter() catches -/
section PREnds
variable {p : Program} {l : Launch} {e : Env} {R : Room} {s : State} {m : MethodId} {args : Array Value} {below : List Frame} {meth : Method} {c : Code} {H : Heap} {locs : List Loc} {cells slots : Nat} {Q : State → Prop}
variable {mc ms : Nat} {free : Addr → Prop} {A0 A1 : Nat → Prop} {H0 : Heap} {a : Array Value} {ls : Array Slot} {st0 rest : List Value}
variable {Qc : Array Value → State → Outcome → State → Prop} {XC : String → State → State → Prop}
/-- 'throw new E("text")': new; dup; ldc; invokespecial; athrow -/
theorem pr_throwS {cc : ByteArray} {pc : Nat} (hexec : p.tables.exec = Jvm.exec) (hb : c.code = cc) (hl : l.stackTraces = false) {own cls text : String} {names : List String} {ik is ic mc ms sa : Nat} {A : Nat → Prop}
    (hown : s.vm.findClass own = some m.cls) (hcls : Bundle.fit cls = true) (hnames : ∀ n ∈ names, Bundle.fit n = true)
    (hk : (Cond.classLink own ik cls).before args s = true) (hini : (Cond.initialized cls).before args s = true) (hstr : vk_R own is text sa s) (hat : ∀ w ∈ vx_atS own ic cls names, w.before args s = true)
    (hgood : ∀ w ∈ Cond.classLink own ik cls :: Cond.initialized cls :: vx_atS own ic cls names, vx_ot w = true)
    (hU : vx_Zq Bundle.tN "UNASSIGNED_STACK" Bundle.steD A s s.heap) (hN : vx_Zq Bundle.tN "SUPPRESSED_SENTINEL" Bundle.listD A s s.heap) (hS : va_S A s.heap H locs) (hsize : ls.size = c.maxLocals)
    (d0 : decode cc pc = .ok (.new ik, 3)) (d3 : decode cc (pc + 3) = .ok (.dup, 1)) (d4 : decode cc (pc + 4) = .ok (.ldc is, 2)) (d6 : decode cc (pc + 6) = .ok (.invokespecial ic, 3)) (d9 : decode cc (pc + 9) = .ok (.athrow, 1))
    (hout : ∀ x ∈ c.exceptionTable.toList, covers x (pc + 9) = false)
    (hRframes : names.length + 3 < R.frames) (hRlocals : (rest.map fun v => v.category).sum + (13 * (names.length + 1) + 43) ≤ R.locals) (hRcells : cells + 1 ≤ R.cells) (hRslots : slots + 6 ≤ R.slots) (hlocks : meth.locks = false)
    (hx : ∀ t : State, s.vm.Alike t.vm → H.size < t.heap.size → (∀ q : Nat, q < H.size → t.heap[q]? = H[q]?) → XC cls s t)
    (hf : ∀ z ∈ locs, free z.base) (hc : cells + 1 ≤ mc) (hs : slots + 6 ≤ ms) :
    W p l e R s m args below meth c H locs cells slots (vx_MQ below Qc XC args s mc ms free) (F0 m pc ls rest) := by
  intro T hT X
  have htr : e.platform.stackTraces = false := (show e.platform.stackTraces = l.stackTraces by rw [X.admits.platform]).trans hl
  have Y := vx_rebase X (R' := { frames := R.frames, locals := R.locals, cells := 1, slots := 6 }) (Nat.le_refl _) (Nat.le_refl _) hRcells hRslots
  obtain ⟨s', hA⟩ : ∃ z, z = (T.setVm s.vm).setFrames (.invoking m args :: below) := ⟨_, rfl⟩
  rw [← hA] at Y
  have hvm : s'.vm = s.vm := by rw [hA]; rfl
  have hhp : s'.heap = H := by rw [hA]; exact hT
  have hW0 : s.WarmedH s'.vm := by rw [hvm]; exact State.WarmedH.refl s
  have hat' : ∀ w ∈ vx_atS own ic cls names, w.before args s' = true := fun w hw => vx_ot_at hW0 hvm.symm (hgood w (List.mem_cons_of_mem _ (List.mem_cons_of_mem _ hw))) (hat w hw)
  have hk' : (Cond.classLink own ik cls).before args s' = true := vx_ot_at hW0 hvm.symm (hgood _ List.mem_cons_self) hk
  have hini' : (Cond.initialized cls).before args s' = true := vx_ot_at hW0 hvm.symm (hgood _ (List.mem_cons_of_mem _ List.mem_cons_self)) hini
  have hU' : vx_Zq Bundle.tN "UNASSIGNED_STACK" Bundle.steD A s' s'.heap := by rw [hhp]; exact vx_Zq.moved hW0.alike (hU.kept hS.2.1)
  have hN' : vx_Zq Bundle.tN "SUPPRESSED_SENTINEL" Bundle.listD A s' s'.heap := by rw [hhp]; exact vx_Zq.moved hW0.alike (hN.kept hS.2.1)
  have h : ∀ w ∈ Bundle.ownAtoms own ic cls names, w.before args s' = true := vx_own hat' (vx_isRefq hU'.1) (vx_isRefq hN'.1) hU'.2.word hN'.2.word
  have hown' : s'.vm.findClass own = some m.cls := by rw [hvm]; exact hown
  have hins : (Cond.instantiable cls 6).before args s' = true := h _ (by simp [Bundle.ownAtoms])
  obtain ⟨vm₁, cX, kX, hfX, hkX, -, -, X₁, st1⟩ := Y.newCold hexec (own := own) (C := cls) (index := ik) (n := 6) hown' hk' hins hini'
    (g := F0 m pc ls rest) rfl (by rw [hb]; exact d0) (Nat.le_refl _) (Nat.le_refl _)
  generalize hT1 : (T.setVm vm₁).pushCell { cls := cX, slots := kX.instanceTypes.map defaultValue, vm := .none } = T1 at X₁ st1
  have hcat : (Value.ref T.heap.size).category = 1 := rfl
  have hcellA : T1.heap[T.heap.size]? = some (freshCell cX kX) := by rw [← hT1]; exact State.heap_pushCell_size _ _
  have d3' : decode c.code (pc + 3) = .ok (.dup, 1) := by rw [hb]; exact d3
  have d4' : decode c.code (pc + 4) = .ok (.ldc is, 2) := by rw [hb]; exact d4
  have hstr' : vk_R own is text sa s' := vk_R.warm hW0 hstr
  obtain ⟨U, hsteps, hrun, hend, hW, hsame, ce, hce, hO⟩ := X₁.ctorThrowS hexec htr (own := own) (cls := cls) (names := names) (ic := ic) hown' hcls hnames h (fun x hx => nomatch hx) hfX hkX hcellA (by rw [hhp, hT]; exact Nat.le_refl _) (msg := .ref sa) rfl
    (g := { method := m, pc := pc + 6, locals := ls, stack := .ref sa :: .ref T.heap.size :: .ref T.heap.size :: rest, locked := none }) rfl hsize rfl rfl (rest := rest) rfl
    (by rw [hb]; exact d6) (by rw [hb]; exact d9) hout hRframes (by simp only [List.map_cons, List.sum_cons, hcat]; omega) hlocks
  obtain ⟨f1, f2⟩ := vx_frame hsame
  rw [hhp] at f1 f2
  have hWs : s.WarmedH U.vm := State.WarmedH.trans hW0 hW
  have hcl : s.vm.findClass cls = some ce.cls := by
    have h9 := hO.cls
    rw [hvm] at h9
    exact h9
  have hall : s.sameButNew ({ U with vm := s.vm } : State) locs mc ms := by
    subst hA
    obtain ⟨e1, e2⟩ := hsame
    rw [State.setFrames_setFrames] at e1
    have h2 : (T.setVm s.vm).sameButNew ({ U with vm := s.vm } : State) [] (0 + 1) (0 + 6) := ⟨e1, e2⟩
    have h3 := X.same.trans h2
    rw [List.append_nil] at h3
    exact h3.mono hc hs
  refine ⟨U, ?_, .threw T.heap.size, hrun, hend, Or.inr ⟨T.heap.size, rfl, cls, ce, locs, hx U hWs.alike (by rw [← hT]; exact (Array.getElem?_eq_some_iff.mp hce).1) (fun q hq => f2 q hq (fun z hz => nomatch hz)), hce, hO.vm, hcl, hWs, hall, hf⟩⟩
  refine st1 _ ?_
  show Steps p.tables e below (T1.setTop { method := m, pc := pc + 3, locals := ls, stack := .ref T.heap.size :: rest, locked := none }) _
  jvm_step X₁.here [X₁.here.top, hexec, d3', Value.category]
  exact X₁.ldcString hexec (own := own) (text := text) (index := is) (a := sa) hown' hstr'.1 hstr'.2
    (g := { method := m, pc := pc + 4, locals := ls, stack := .ref T.heap.size :: .ref T.heap.size :: rest, locked := none }) rfl d4' _ hsteps
end PREnds
def thr_ws : List Cond := vx_atS "InferResolve" 201 "java/lang/IndexOutOfBoundsException" ["java/lang/RuntimeException", "java/lang/Exception"]
/-- the words of the throw that do not go by themselves from a caller to its callee -/
def pz_bad : List Cond := [.declares ⟨"java/lang/RuntimeException", "<init>", "(Ljava/lang/String;)V"⟩, .declares ⟨"java/lang/Exception", "<init>", "(Ljava/lang/String;)V"⟩, .declares ⟨"java/lang/Throwable", "<init>", "(Ljava/lang/String;)V"⟩, .castable "java/lang/IndexOutOfBoundsException" "java/lang/IndexOutOfBoundsException"]
theorem thr_in : ∀ w ∈ thr_ws, w ∈ lw_tbl := by decide +kernel
theorem thr_ot : ∀ w ∈ Cond.classLink "InferResolve" 197 "java/lang/IndexOutOfBoundsException" :: Cond.initialized "java/lang/IndexOutOfBoundsException" :: thr_ws, vx_ot w = true := by decide +kernel
theorem thr_bad : ∀ w ∈ thr_ws.filter (fun w => !goodWord w), w ∈ pz_bad := by decide +kernel
theorem pz_bad_in : ∀ w ∈ pz_bad, w ∈ lw_tbl := by decide +kernel
theorem pz_bad_on : ∀ w ∈ pz_bad, w.onTables = true := by decide +kernel
theorem pz_bad_warm {s U : State} (hW : s.WarmedH U.vm) (h : ∀ w ∈ pz_bad, va_Nw w s) : ∀ w ∈ pz_bad, va_Nw w U := by
  intro w hw
  have h1 := h w hw
  simp only [pz_bad, List.mem_cons, List.not_mem_nil, or_false] at hw
  rcases hw with rfl | rfl | rfl | rfl
  · exact h1.warmD hW
  · exact h1.warmD hW
  · exact h1.warmD hW
  · exact h1.warmC hW
theorem pz_bad_same {u U : State} (h : u.vm = U.vm) (hb : ∀ w ∈ pz_bad, va_Nw w u) : ∀ w ∈ pz_bad, va_Nw w U := fun w hw => (hb w hw).same (pz_bad_on w hw) h
theorem thr_hat {args : Array Value} {s : State} (hts : ∀ w ∈ pr_G, w.before args s = true) (hb : ∀ w ∈ pz_bad, va_Nw w s) : ∀ w ∈ thr_ws, w.before args s = true :=
  vx_hat (fun w hw => hts w (List.mem_filter.mpr ⟨thr_in w (List.mem_filter.mp hw).1, (List.mem_filter.mp hw).2⟩)) thr_bad (fun w hw => va_Nw.use (pz_bad_on w hw) (hb w hw))
/-- the heap behind the throw: what was there is there, and one cell more at least -/
def pr_XC (b : pr_B) (D : va_G) (aC : Nat → ClassId) (h : pr_H) (E : String) (st t : State) : Prop := E = "java/lang/IndexOutOfBoundsException" ∧ (∀ (k : Nat) (x : pr_C), h[k]? = some x → pr_j x = false → va_at D pr_cl (b.1 + k, pr_e b aC x) t.heap) ∧ b.1 + h.length < t.heap.size ∧ va_F (pr_A b) st t
theorem letterX_met {l : Launch} (hl : l.stackTraces = false) (D : va_G) (aC : Nat → ClassId) (b : pr_B) (n : Int32) : vx_Met l yX10_letter (pr_ws m_X_letter) { frames := 13, cells := 1, slots := 6, locals := 13 * 80 }
    (va_Pc [.ref (b.1 + 0), .int n] (fun U => (pr_I b D aC h2 U.heap ∧ pr_K b D aC U) ∧ ∀ w ∈ pz_bad, va_Nw w U)) (fun _ _ _ _ => False) (pr_XC b D aC h2) 1 6 (pr_A b) := by
  obtain ⟨fX, x0, x1, x2⟩ := h2_X
  obtain ⟨fU, u0, u1, u2⟩ := h2_U
  refine vx_ofW (cc := cX10_letter) (maxL := 2) (ret := some .int) (by decide +kernel) rfl ?_
  intro p e s m args below meth c s₁ B hml ht hv
  obtain ⟨rfl, ⟨hI, hK⟩, hbad⟩ := hv
  have hx := B.exec
  have hb := B.bytes
  have hts : ∀ w ∈ pr_G, w.before ([Value.ref (b.1 + 0), .int n] : List Value).toArray s = true := fun w hw => atoms_spec (ws := pr_ws m_X_letter) B.pre w (List.mem_cons_of_mem _ hw)
  have hown : s.vm.findClass RX10 = some m.cls := findClass_of_methodNamed B.named
  have hlocks := B.notSynchronized
  have hl0 := lv_entry ([.ref (b.1 + 0), .int n]) (n := 2) (Nat.le_of_ble_eq_true rfl)
  rw [lg_entry_eq]
  generalize (lg_sl ([.ref (b.1 + 0), .int n]) ++ List.replicate (2 - (lg_sl ([.ref (b.1 + 0), .int n])).length) Slot.unset).toArray = ls at hl0 ⊢
  have hl1 : lv_has ls 2 [(0, .ref (b.1 + 0)), (1, .int n)] := hl0
  have thr : ∀ (H : Heap) (locs : List Loc), pr_I b D aC h2 H → va_S (pr_A b) s.heap H locs → W p l e (headSpec (pr_ws m_X_letter) { frames := 13, cells := 1, slots := 6, locals := 13 * 80 }).room s m ([Value.ref (b.1 + 0), .int n] : List Value).toArray below meth c H locs 0 0 (vx_MQ below (fun _ _ _ _ => False) (pr_XC b D aC h2) ([Value.ref (b.1 + 0), .int n] : List Value).toArray s 1 6 (pr_A b)) (F0 m 15 ls []) := by
    intro H locs hI1 hS
    refine pr_throwS (own := RX10) (cls := "java/lang/IndexOutOfBoundsException") (names := ["java/lang/RuntimeException", "java/lang/Exception"]) (text := "no such byte was written") (ik := 197) (is := 199) (ic := 201) (sa := b.2.1 4) (A := pr_A b) hx hb hl hown (by decide +kernel) (by decide +kernel) (hts _ wd_748) (hts _ wd_749) (hK.2.2.2.2.1 ("InferResolve", 199, "no such byte was written", 4) (List.mem_of_getElem? (i := 8) rfl)) (thr_hat hts hbad) thr_ot hK.2.2.2.2.2.1 hK.2.2.2.2.2.2.1 hS (by rw [hml]; exact hl1.1) dX10_letter_15 dX10_letter_18 dX10_letter_19 dX10_letter_21 dX10_letter_24 (fun x hx => False.elim (ht x hx)) (by decide) (by decide) (by decide) (by decide) hlocks (fun t _ z1 z2 => ?_) hS.2.2 (by decide) (by decide)
    refine ⟨rfl, fun k x hk hj => (hI1.1 k x hk hj).kept (z2 _ ?_), by rw [← hI1.2]; exact z1, Nat.le_trans hS.1 (Nat.le_of_lt z1), fun q g1 g2 => (z2 q (Nat.lt_of_lt_of_le g1 hS.1)).trans (hS.2.1 q g1 g2)⟩
    have := (List.getElem?_eq_some_iff.mp hk).1
    rw [hI1.2]
    show b.1 + k < _
    omega
  refine lv_iload_n hx hb dX10_letter_0 rfl (lv_at hl1 1 rfl) ?_
  refine lv_if_lt (tgt := 15) hx hb dX10_letter_1 (by decide) (fun _ => thr s.heap [] hI va_S.rf) (fun c1 => ?_)
  refine lv_iload_n hx hb dX10_letter_4 rfl (lv_at hl1 1 rfl) ?_
  refine lv_aload_n hx hb dX10_letter_5 rfl (lv_at hl1 0 rfl) ?_
  refine va_get (D := D) (ci := 10) (v := .ref (b.1 + 3)) (C := RX10) (T := TX10) (N := 17) (fs := fX.map (pr_v b)) hx hb hts cf_10.2.1 hown hK.1 (hI.p x0 (pr_j_cl cf_10.1)) 0 rfl cf_10.1 1 (by decide) (hts _ wd_9) (fun _ h9 => h9) (by rw [List.getElem?_map, x2 (1, .ref 3) (by simp)]; rfl) dX10_letter_6 ?_
  have hM := (c_size (d := 0) u0 (u2 (1, .int 0) (by simp))).2.2 l D aC b
  refine pr_cont (rest := [.int n]) (va_runV (As := []) (rest := [.int n]) (Ts := pr_G) (nL := 2) ⟨hx, hb, hml, hown, hts⟩ hM ⟨callB_of 0 hts (pr_good cal_79.1 (fun _ h9 => h9)) rfl rfl rfl (hts _ cal_79.2.1) (hts _ wd_100) cal_79.2.2.1 ⟨Nat.le_of_ble_eq_true rfl, Nat.le_of_ble_eq_true rfl⟩, hts _ wd_102, hts _ wd_101⟩
    ⟨pr_blind, va_recv hK.1 (hI.p u0 (pr_j_cl cf_7.1)) cf_7.1 (q0 := 0) rfl, fun U hU hW => ⟨rfl, by rw [hU]; exact hI, hK.to va_S.rf hU hW⟩⟩ rfl rfl hl1.1 rfl (Nat.le_of_ble_eq_true rfl) dX10_letter_9 ⟨by rw [Nat.sub_self]; decide, by rw [Nat.sub_self]; decide⟩) va_S.rf ?_
  intro H1 locs1 hI1 hS1
  rw [Nat.sub_self, Nat.sub_self]
  refine lv_icmp_lt (tgt := 25) hx hb dX10_letter_12 (by decide) (fun c2 => absurd c2 c1) (fun _ => ?_)
  exact thr H1 locs1 hI1 hS1
