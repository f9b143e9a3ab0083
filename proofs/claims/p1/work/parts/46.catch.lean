/-! a handler whose catch type may still have to be resolved: a table of one row -/
theorem pr_fhOne {Q : Handler → Pre} {E : CtlPost} {e : Env} {d : Bool} {acts : List Action} {S : State} {f : JFrame} {a : Addr} {x : ExceptionTableEntry} {cN : ClassId} {cell : Cell} {meth : Method} {code : Code} (hm : S.vm.method? f.method = some meth) (hc : meth.code = some code) (htab : code.exceptionTable.toList = [x]) (hx : covers x f.pc = true) (h0 : x.catchType ≠ 0)
    (hl : S.vm.ClassLinks e.platform f.method.cls x.catchType cN) (hcell : S.heap[a]? = some cell) (hobj : ∀ k, cell.vm ≠ .statics k) (hk : ∃ k, S.vm.classes[cell.cls]? = some k) (hn : ∃ k, S.vm.classes[cN]? = some k) (hfit : S.vm.assignable cell.cls cN = true) :
    wp (findHandler f a) Q E e d acts S ↔ Q (.found x.handlerPc) d acts (S.setVm (S.vm.noted f.method.cls x.catchType (.cls cN))) := by
  rw [Jvm.W.findHandler_eq hm hc, htab]
  simp only [covers] at hx
  obtain ⟨r1, r2⟩ := (resolveClass_links e.toSetting hl).op (op := VmOp.resolveClass f.method.cls x.catchType) rfl
  have hal : S.vm.Alike (S.vm.noted f.method.cls x.catchType (.cls cN)) := (Vm.Alike.refl S.vm).noted _ _ _
  obtain ⟨k1, q1⟩ := hk
  obtain ⟨k2, q2⟩ := hn
  obtain ⟨k1', q1', -⟩ := hal.2.2 _ _ q1
  obtain ⟨k2', q2', -⟩ := hal.2.2 _ _ q2
  have q3 : (S.vm.noted f.method.cls x.catchType (.cls cN)).assignable cell.cls cN = true := by rw [hal.assignable]; exact hfit
  simp [findHandler.go, hx, h0, r1, r2, hcell, hobj, q1', q2', q3, VmOp.dirties, VmOp.acts]
theorem pr_stepOne {e : Env} {S : State} {a : Addr} {f : JFrame} {r : List Frame} {pc : Nat} {vm' : Vm} (hfind : ∀ (Q : Handler → Pre) (E : CtlPost) (d : Bool) (acts : List Action), wp (findHandler f a) Q E e d acts S ↔ Q (.found pc) d acts (S.setVm vm')) :
    (stepThrowing e S a (.java f :: r)).Is ((S.setVm vm').setFrames (.java { f with pc := pc, stack := [.ref a] } :: r)) [] := by
  simp only [stepThrowing, searchFrame, vmDo]
  generalize hr : Sem.go _ e false [] S = res
  obtain ⟨as, rfl, ha⟩ := Sem.eq_ok_of hr (a := Handler.found pc) (s' := S.setVm vm') (acts' := []) (by simp [hfind _ _ _ _])
  exact ⟨rfl, ha⟩
section PRCatch
variable {p : Program} {l : Launch} {e : Env} {R : Room} {s : State} {m : MethodId} {args : Array Value} {below : List Frame} {meth : Method} {c : Code} {H : Heap} {locs : List Loc} {cells slots : Nat} {Q : State → Prop}
theorem pr_catchW {pc : Nat} {ls : Array Slot} {rest : List Value} {own name E : String} {ce : Cell} {q : Addr} {x : ExceptionTableEntry} (hown : s.vm.findClass own = some m.cls) (htab : c.exceptionTable.toList = [x]) (hx : covers x pc = true) (h0 : x.catchType ≠ 0)
    (hlink : (Cond.classLink own x.catchType name).before args s = true) (hcast : (Cond.castable E name).before args s = true) (hcell : H[q]? = some ce) (hv : ce.vm = .none) (hcl : s.vm.findClass E = some ce.cls)
    (kk : W p l e R s m args below meth c H locs cells slots Q (F0 m x.handlerPc ls [.ref q])) : vx_W p l e R s m args below meth c H locs cells slots Q (F0 m pc ls rest) q := by
  intro T hT X
  have hpl : e.platform.magicAccessors = ({} : Platform).magicAccessors := by rw [X.admits.platform]
  obtain ⟨cE, cN, hcE, hcN, hasg⟩ := Cond.castable_spec hcast
  cases Option.some.inj (hcE.symm.trans hcl)
  obtain ⟨c5, hc5, hln⟩ := Cond.classLink_spec hown hlink e.platform hpl
  cases Option.some.inj (hcN.symm.trans hc5)
  obtain ⟨dk, _, _, kt, hd, _, _, _, _, hkt, _, hopen⟩ := hln.here
  have hal := X.warmed.alike
  obtain ⟨kt', hkt', -⟩ := hal.2.2 _ _ hkt
  obtain ⟨kE, hkE⟩ := Vm.classAt_of_assignable hasg ⟨kt, hkt⟩
  obtain ⟨kE', hkE', -⟩ := hal.2.2 _ _ hkE
  have hW' : s.WarmedH (T.vm.noted m.cls x.catchType (.cls cN)) := X.warmed.noted hd hopen (State.rightAt_cls hln)
  obtain ⟨t, a1, b1⟩ := kk (T.setVm (T.vm.noted m.cls x.catchType (.cls cN))) hT (X.noted hW')
  refine ⟨t, ?_, b1⟩
  have hh : At T m c below := X.here
  obtain ⟨hgo, hw⟩ := hh.throwing (g := F0 m pc ls rest) q
  refine Steps.head hgo hw ?_
  rw [stepThread_throwing (frames_entered hh.top _), (pr_stepOne (S := (T.setTop (F0 m pc ls rest)).pushFrame (.throwing q)) (f := F0 m pc ls rest) (pc := x.handlerPc) (vm' := T.vm.noted m.cls x.catchType (.cls cN)) (fun Q E d acts => pr_fhOne (S := (T.setTop (F0 m pc ls rest)).pushFrame (.throwing q)) (f := F0 m pc ls rest) (meth := meth) (code := c) (cell := ce) X.method' X.code htab hx h0 (X.warmed.classLinks hln) (by rw [Stand.throwing_heap, hT]; exact hcell) (VmData.ne_statics_of (by rw [hv]; rfl)) ⟨kE', hkE'⟩ ⟨kt', hkt'⟩ (by rw [Stand.throwing_vm, hal.assignable]; exact hasg))).1]
  obtain ⟨g₀, hg⟩ := Option.isSome_iff_exists.mp hh.top
  obtain ⟨r, hr⟩ := State.topJava?_eq_some.mp hg
  have hr' : (T.setVm (T.vm.noted m.cls x.catchType (.cls cN))).frames = .java g₀ :: r := hr
  have hsf : ∀ (u : State) (v : Vm) (F G : List Frame), ((u.setFrames F).setVm v).setFrames G = (u.setVm v).setFrames G := fun u v F G => by
    have h1 : (u.setFrames F).setVm v = (u.setVm v).setFrames F := rfl
    rw [h1, State.setFrames_setFrames]
  rw [State.setTop_of_frames _ hr'] at a1
  rw [hr, List.tail_cons, State.pushFrame, hsf, State.setTop_of_frames _ hr, hsf]
  exact a1
end PRCatch
theorem pr_app1 {h : pr_H} {x y : pr_C} {k : Nat} (hk : (h ++ [x])[k]? = some y) : (k < h.length ∧ h[k]? = some y) ∨ (k = h.length ∧ y = x) := by
  by_cases hkl : k < h.length
  · rw [List.getElem?_append_left hkl] at hk
    exact Or.inl ⟨hkl, hk⟩
  · have hk2 := (List.getElem?_eq_some_iff.mp hk).1
    rw [List.length_append, List.length_singleton] at hk2
    have h3 : k = h.length := by omega
    rw [h3, List.getElem?_append_right (Nat.le_refl _), Nat.sub_self] at hk
    exact Or.inr ⟨h3, (Option.some.inj hk).symm⟩
/-- the law's letter(): nothing is written, so the class throws and 1 comes back -/
theorem letterL_met {l : Launch} (hl : l.stackTraces = false) (D : va_G) (aC : Nat → ClassId) (b : pr_B) (n : Int32) (o : Nat) : Met l yL_letter (.codeWith yL_letter cL_letter 4 (some .int) [(0, 9, 12, 13)] :: pr_G) { frames := 14, cells := 1, slots := 6, locals := 14 * 80 }
    (va_Pc [.ref (b.1 + 0), .int n, .ref (b.1 + o)] (fun U => (pr_I b D aC h2 U.heap ∧ pr_K b D aC U) ∧ ∀ w ∈ pz_bad, va_Nw w U)) (pr_Q b D aC (some (.int 1)) (h2 ++ [pr_junk])) 1 6 (pr_A b) := by
  obtain ⟨fX, x0, x1, x2⟩ := h2_X
  refine va_MetW (cc := cL_letter) (maxL := 4) (ret := some .int) (hh := [(0, 9, 12, 13)]) (by decide +kernel) rfl ?_
  intro p e s m args below meth c s₁ B hml hv
  obtain ⟨rfl, ⟨hI, hK⟩, hbad⟩ := hv
  have hx := B.exec
  have hb := B.bytes
  have hr := B.returns
  have hat := atoms_spec (ws := .codeWith yL_letter cL_letter 4 (some .int) [(0, 9, 12, 13)] :: pr_G) B.pre
  have hts : ∀ w ∈ pr_G, w.before ([Value.ref (b.1 + 0), .int n, .ref (b.1 + o)] : List Value).toArray s = true := fun w hw => hat w (List.mem_cons_of_mem _ hw)
  have htab : c.exceptionTable.toList = [⟨0, 9, 12, 13⟩] := vx_table (x := yL_letter) B (hat _ List.mem_cons_self)
  have hown : s.vm.findClass RL = some m.cls := findClass_of_methodNamed B.named
  have hlocks := B.notSynchronized
  have hl0 := lv_entry ([.ref (b.1 + 0), .int n, .ref (b.1 + o)]) (n := 4) (Nat.le_of_ble_eq_true rfl)
  rw [lg_entry_eq]
  generalize (lg_sl ([.ref (b.1 + 0), .int n, .ref (b.1 + o)]) ++ List.replicate (4 - (lg_sl ([.ref (b.1 + 0), .int n, .ref (b.1 + o)])).length) Slot.unset).toArray = ls at hl0 ⊢
  have hl1 : lv_has ls 4 [(0, .ref (b.1 + 0)), (1, .int n), (2, .ref (b.1 + o))] := hl0
  refine lv_aload_n hx hb dL_letter_0 rfl (lv_at hl1 2 rfl) ?_
  refine lv_iconst (v := 0) hx hb dL_letter_1 (by decide) ?_
  refine lv_aload_n hx hb dL_letter_2 rfl (lv_at hl1 0 rfl) ?_
  refine lv_iload_n hx hb dL_letter_3 rfl (lv_at hl1 1 rfl) ?_
  have run := vx_runV (R := (headSpec (.codeWith yL_letter cL_letter 4 (some .int) [(0, 9, 12, 13)] :: pr_G) { frames := 14, cells := 1, slots := 6, locals := 14 * 80 }).room) (p := p) (l := l) (e := e) (s := s) (m := m) (args := ([Value.ref (b.1 + 0), .int n, .ref (b.1 + o)] : List Value).toArray) (below := below) (meth := meth) (c := c) (H := s.heap) (locs := []) (cells := 0) (slots := 0) (own := RL) (index := 7) (b := b.1 + 0) (As := [.int n]) (rest := [.int 0, .ref (b.1 + o)]) (Ts := pr_G) (nL := 4) (g := F0 m 4 ls [.int n, .ref (b.1 + 0), .int 0, .ref (b.1 + o)]) ⟨hx, hb, hml, hown, hts⟩ (letterX_met hl D aC b n)
    ⟨callB_of 1 hts (pr_good cal_X_letter.1 (fun _ h9 => h9)) rfl rfl rfl (hts _ cal_X_letter.2.1) (hts _ wd_768) cal_X_letter.2.2.1 ⟨Nat.le_of_ble_eq_true rfl, Nat.le_of_ble_eq_true rfl⟩, hts _ wd_769, hts _ wd_770⟩
    ⟨fun a U g mk q => ⟨q.1, ⟨q.2.1.1, q.2.1.2.calling⟩, pz_bad_same (u := U) (U := U.calling g mk a) rfl q.2.2⟩, va_recv hK.1 (hI.p x0 (pr_j_cl cf_10.1)) cf_10.1 (q0 := 0) rfl, fun U hU hW => ⟨rfl, ⟨by rw [hU]; exact hI, hK.to va_S.rf hU hW⟩, pz_bad_warm hW hbad⟩⟩ rfl rfl hl1.1 rfl (Nat.le_of_ble_eq_true rfl) dL_letter_4 ⟨by decide, by decide⟩
  intro T hT X
  rcases run T hT X with ⟨v, st₀, t, T', L, h0, X', hL, e1, e2, hF, st⟩ | ⟨q, st₀, t, T', L, E, ce, h0, X', hL, e1, e2, ⟨rfl, g1, g2, g3⟩, hce, hcv, hcl, st⟩
  · exact hF.elim
  · have hsz : T'.heap.size = b.1 + h2.length + 1 := by
      have u1 := X'.heapSize
      rw [hI.2] at u1
      rw [e1] at u1 ⊢
      omega
    have hI1 : pr_I b D aC (h2 ++ [pr_junk]) T'.heap := by
      refine ⟨fun k y hk hj => ?_, by rw [hsz, List.length_append, List.length_singleton]; omega⟩
      rcases pr_app1 hk with ⟨_, hk1⟩ | ⟨_, hk1⟩
      · rw [e1]
        exact g1 k y hk1 hj
      · rw [hk1] at hj
        exact absurd hj (by decide)
    have hS1 : va_S (pr_A b) s.heap T'.heap ([] ++ L) := by
      obtain ⟨z1, z2⟩ := g3
      rw [h0] at z1 z2
      exact ⟨by rw [e1]; exact z1, fun q g1 g2 => by rw [e1]; exact z2 q g1 g2, fun z hz => hL z hz⟩
    have fin : W p l e (headSpec (.codeWith yL_letter cL_letter 4 (some .int) [(0, 9, 12, 13)] :: pr_G) { frames := 14, cells := 1, slots := 6, locals := 14 * 80 }).room s m ([Value.ref (b.1 + 0), .int n, .ref (b.1 + o)] : List Value).toArray below meth c T'.heap ([] ++ L) (0 + 1) (0 + 6) (MQ below (pr_Q b D aC (some (.int 1)) (h2 ++ [pr_junk])) ([Value.ref (b.1 + 0), .int n, .ref (b.1 + o)] : List Value).toArray s 1 6 (pr_A b)) (F0 m 12 ls [.ref q]) := by
      refine lv_astore_n (lv' := [(3, .ref q), (0, .ref (b.1 + 0)), (1, .int n), (2, .ref (b.1 + o))]) hx hb dL_letter_12 rfl hl1 (by decide) rfl (fun ls2 hl2 => ?_)
      refine lv_iconst (v := 1) hx hb dL_letter_13 (by decide) ?_
      exact W.iret (v := 1) hx hb hr (fun t ht _ => ⟨rfl, by rw [ht]; exact hI1, hS1.F ht⟩) hS1.2.2 dL_letter_14 hlocks
    obtain ⟨t2, a1, b1⟩ := pr_catchW (x := ⟨0, 9, 12, 13⟩) (name := "java/lang/IndexOutOfBoundsException") (E := "java/lang/IndexOutOfBoundsException") (rest := [.int 0, .ref (b.1 + o)]) (pc := 4) (own := RL) hown htab (by decide) (by decide) (hts _ wd_882) (va_Nw.use rfl (hbad _ (List.mem_of_getElem? (i := 3) rfl))) (by rw [e1]; exact hce) hcv hcl fin T' rfl X'
    exact ⟨t2, st.trans a1, b1⟩
