theorem pr_X.own {d : Nat} {mi : pr_M} {D : va_G} {aC : Nat → ClassId} {b : pr_B} {p : Program} {R : Room} {s : State} {m : MethodId} {args : Array Value} {meth : Method} {c : Code} (X : pr_X d mi D aC b p R s m args meth c) : s.vm.findClass mi.1.cls = some m.cls := X.2.2.2.2.1
theorem pr_X.ts {d : Nat} {mi : pr_M} {D : va_G} {aC : Nat → ClassId} {b : pr_B} {p : Program} {R : Room} {s : State} {m : MethodId} {args : Array Value} {meth : Method} {c : Code} (X : pr_X d mi D aC b p R s m args meth c) : ∀ w ∈ pr_G, w.before args s = true := X.2.2.2.2.2.1
theorem pr_X.lk {d : Nat} {mi : pr_M} {D : va_G} {aC : Nat → ClassId} {b : pr_B} {p : Program} {R : Room} {s : State} {m : MethodId} {args : Array Value} {meth : Method} {c : Code} (X : pr_X d mi D aC b p R s m args meth c) : meth.locks = false := X.2.2.2.2.2.2.1
theorem pr_X.nm {d : Nat} {mi : pr_M} {D : va_G} {aC : Nat → ClassId} {b : pr_B} {p : Program} {R : Room} {s : State} {m : MethodId} {args : Array Value} {meth : Method} {c : Code} (X : pr_X d mi D aC b p R s m args meth c) : meth.name = mi.1.name := X.2.2.2.2.2.2.2.1
theorem pr_X.Kz {d : Nat} {mi : pr_M} {D : va_G} {aC : Nat → ClassId} {b : pr_B} {p : Program} {R : Room} {s : State} {m : MethodId} {args : Array Value} {meth : Method} {c : Code} (X : pr_X d mi D aC b p R s m args meth c) : pr_K b D aC s := X.2.2.2.2.2.2.2.2.1
theorem pr_X.K {d : Nat} {mi : pr_M} {D : va_G} {aC : Nat → ClassId} {b : pr_B} {p : Program} {R : Room} {s : State} {m : MethodId} {args : Array Value} {meth : Method} {c : Code} (X : pr_X d mi D aC b p R s m args meth c) : va_K D pr_cl (pr_tl aC) s := X.Kz.1
theorem pr_X.fr {d : Nat} {mi : pr_M} {D : va_G} {aC : Nat → ClassId} {b : pr_B} {p : Program} {R : Room} {s : State} {m : MethodId} {args : Array Value} {meth : Method} {c : Code} (X : pr_X d mi D aC b p R s m args meth c) : d ≤ R.frames ∧ d * 80 ≤ R.locals ∧ b.1 ≤ s.heap.size := X.2.2.2.2.2.2.2.2.2
theorem pr_tl_at {aC : Nat → ClassId} {t : Nat} {ty : FieldType} (h : pr_tys[t]? = some ty) : (pr_tl aC)[t]? = some (aC t, ty) := by
  simp [pr_tl, List.getElem?_mapIdx, h]
theorem pr_sz_push (h : pr_H) (x : pr_C) : pr_sz (h ++ [x]) = pr_sz h + pr_s x := by simp [pr_sz]
theorem pr_sz_set : ∀ {h : pr_H} {k : Nat} {x y : pr_C}, h[k]? = some x → pr_s y = pr_s x → pr_sz (h.set k y) = pr_sz h
  | [], k, x, y, hk, _ => by simp at hk
  | z :: h, 0, x, y, hk, e => by
    simp at hk
    subst hk
    simp [pr_sz, e]
  | z :: h, k + 1, x, y, hk, e => by
    have hk' : h[k]? = some x := by simpa using hk
    have := pr_sz_set hk' e
    simp only [pr_sz, List.set_cons_succ, List.map_cons, List.sum_cons] at this ⊢
    rw [this]
/-- the class number ci, with its fields -/
abbrev pr_cf (ci : Nat) (C : String) (T : u_T) (N : Nat) (ty : Nat → FieldType) : Prop := pr_cl[ci]? = some (C, T, N) ∧ (∀ w ∈ u_ws C T N, w ∈ pr_G) ∧ (∀ k, k < N → parseFieldDescriptor (T k).2.2.1 = some (ty k)) ∧ (∀ a, a < N → ∀ b, b < N → a ≠ b → (T a).2.1 ≠ (T b).2.1)
section PRH
variable {d : Nat} {mi : pr_M} {pc pc1 : Nat} {lo lo1 : List (Nat × Value)} {st st1 : List Value} {h h1 : pr_H} {v : Option Value} {h' : pr_H}
theorem pr_get_ix {i : Nat} {w : Value} (hg : pr_get lo i = some w) : ∃ j : Nat, lo[j]? = some (i, w) := by
  unfold pr_get at hg
  cases hf : lo.find? (fun q => q.1 == i) with
  | none => rw [hf] at hg; cases hg
  | some q =>
    rw [hf] at hg
    cases hg
    have h2 : q.1 = i := by simpa using List.find?_some hf
    obtain ⟨j, hj⟩ := List.getElem?_of_mem (List.mem_of_find?_eq_some hf)
    exact ⟨j, by rw [hj, ← h2]⟩
theorem pr_iinc {i : Nat} {n : Int} {x : Int32} (hd : decode mi.2.1 pc = .ok (.iinc i n, 3)) (hg : pr_get lo i = some (.int x)) (hn : i < mi.2.2.1) (k : pr_R d mi (pc + 3) (pr_put1 lo i (.int (x + Int32.ofInt n))) st h v h') : pr_R d mi pc lo st h v h' :=
  pr_toL k fun b p l e R s m args below meth c H locs cells slots ls Q D aC X hl kk => by
    obtain ⟨j, hj⟩ := pr_get_ix hg
    exact lv_iinc (k := j) X.1 X.2.1 hd hl (by simp [pr_lo, hj, pr_v]) rfl hn (pr_put1_eq b lo i (.int (x + Int32.ofInt n))) kk
/-- an instruction that writes the heap -/
theorem pr_toH (k : pr_R d mi pc1 lo st1 h1 v h') (hlen : h1.length = h.length) (hsz : pr_sz h1 = pr_sz h) (hs : ∀ (b : pr_B) (p : Program) (l : Launch) (e : Env) (R : Room) (s : State) (m : MethodId) (args : Array Value) (below : List Frame) (meth : Method) (c : Code) (H : Heap) (locs : List Loc) (cells slots : Nat) (ls : Array Slot) (Q : State → Prop) (D : va_G) (aC : Nat → ClassId),
    pr_X d mi D aC b p R s m args meth c → pr_I b D aC h H → va_S (pr_A b) s.heap H locs → lv_has ls mi.2.2.1 (pr_lo b lo) → (∀ (H1 : Heap) (locs1 : List Loc), pr_I b D aC h1 H1 → va_S (pr_A b) s.heap H1 locs1 → W p l e R s m args below meth c H1 locs1 cells slots Q (F0 m pc1 ls (st1.map (pr_v b)))) → W p l e R s m args below meth c H locs cells slots Q (F0 m pc ls (st.map (pr_v b)))) : pr_R d mi pc lo st h v h' := by
  refine ⟨hlen ▸ k.1, hsz ▸ k.2.1, fun D aC b p l e R s m args below meth c X H locs cells slots ls hI hS hl e1 e2 => ?_⟩
  rw [← hlen] at e1 ⊢
  rw [← hsz] at e2 ⊢
  exact hs b p l e R s m args below meth c H locs cells slots ls _ D aC X hI hS hl (fun H1 locs1 hI1 hS1 => k.2.2 D aC b p l e R s m args below meth c X H1 locs1 cells slots ls hI1 hS1 hl e1 e2)
/-- an instruction that makes a cell -/
theorem pr_toN {x : pr_C} (k : pr_R d mi pc1 lo st1 (h ++ [x]) v h') (hs : ∀ (b : pr_B) (p : Program) (l : Launch) (e : Env) (R : Room) (s : State) (m : MethodId) (args : Array Value) (below : List Frame) (meth : Method) (c : Code) (H : Heap) (locs : List Loc) (cells slots : Nat) (ls : Array Slot) (Q : State → Prop) (D : va_G) (aC : Nat → ClassId),
    pr_X d mi D aC b p R s m args meth c → pr_I b D aC h H → va_S (pr_A b) s.heap H locs → lv_has ls mi.2.2.1 (pr_lo b lo) → cells + 1 ≤ R.cells → slots + pr_s x ≤ R.slots → (∀ (H1 : Heap), pr_I b D aC (h ++ [x]) H1 → va_S (pr_A b) s.heap H1 locs → W p l e R s m args below meth c H1 locs (cells + 1) (slots + pr_s x) Q (F0 m pc1 ls (st1.map (pr_v b)))) → W p l e R s m args below meth c H locs cells slots Q (F0 m pc ls (st.map (pr_v b)))) : pr_R d mi pc lo st h v h' := by
  obtain ⟨k1, k2, k3⟩ := k
  rw [List.length_append, List.length_singleton] at k1
  rw [pr_sz_push] at k2
  refine ⟨by omega, by omega, fun D aC b p l e R s m args below meth c X H locs cells slots ls hI hS hl e1 e2 => ?_⟩
  have a1 : cells + (h'.length - h.length) = cells + 1 + (h'.length - (h ++ [x]).length) := by
    rw [List.length_append, List.length_singleton]; omega
  have a2 : slots + (pr_sz h' - pr_sz h) = slots + pr_s x + (pr_sz h' - pr_sz (h ++ [x])) := by
    rw [pr_sz_push]; omega
  rw [a1] at e1 ⊢
  rw [a2] at e2 ⊢
  exact hs b p l e R s m args below meth c H locs cells slots ls _ D aC X hI hS hl (by omega) (by omega) (fun H1 hI1 hS1 => k3 D aC b p l e R s m args below meth c X H1 locs (cells + 1) (slots + pr_s x) ls hI1 hS1 hl e1 e2)
theorem pr_getf {idx ci k kf N : Nat} {C : String} {T : u_T} {ty : Nat → FieldType} {fs : List Value} {x : Value} (hd : decode mi.2.1 pc = .ok (.getfield idx, 3)) (hC : pr_cf ci C T N ty) (hk : kf < N) (hlink : Cond.fieldLink mi.1.cls idx (T kf).1 (T kf).2.1 (T kf).2.2.1 ∈ pr_G) (ho : h[k]? = some (.inr (ci, fs))) (hv : fs[kf]? = some x) (kk : pr_R d mi (pc + 3) lo (x :: st) h v h') : pr_R d mi pc lo (.ref k :: st) h v h' :=
  pr_to kk fun b p l e R s m args below meth c H locs cells slots ls Q D aC X hI hl kW =>
    va_get (D := D) (ci := ci) (v := pr_v b x) (C := C) (T := T) (N := N) (fs := fs.map (pr_v b)) X.1 X.2.1 X.ts hC.2.1 X.own X.K (hI.p ho (pr_j_cl hC.1)) 0 rfl hC.1 kf hk (X.ts _ hlink) (fun _ h9 => h9) (by rw [List.getElem?_map, hv]; rfl) hd kW
theorem pr_getN {idx ci k kf N : Nat} {C host : String} {T : u_T} {ty : Nat → FieldType} {fs : List Value} {x : Value} (hd : decode mi.2.1 pc = .ok (.getfield idx, 3)) (hC : pr_cf ci C T N ty) (hk : kf < N) (hlink : (mi.1.cls, idx, (T kf).1, (T kf).2.1, (T kf).2.2.1, host) ∈ pz_nf) (ho : h[k]? = some (.inr (ci, fs))) (hv : fs[kf]? = some x) (kk : pr_R d mi (pc + 3) lo (x :: st) h v h') : pr_R d mi pc lo (.ref k :: st) h v h' :=
  pr_to kk fun b p l e R s m args below meth c H locs cells slots ls Q D aC X hI hl kW =>
    va_getN (D := D) (ci := ci) (v := pr_v b x) (C := C) (T := T) (N := N) (fs := fs.map (pr_v b)) X.1 X.2.1 X.ts hC.2.1 X.own X.K (hI.p ho (pr_j_cl hC.1)) 0 rfl hC.1 kf hk (va_Nw.use rfl (X.Kz.2.nf hlink)) (fun _ h9 => h9) (by rw [List.getElem?_map, hv]; rfl) hd kW
/-- the heap behind a store into a field -/
theorem pr_stored {b : pr_B} {k ci kf N : Nat} {D : va_G} {aC : Nat → ClassId} {C : String} {T : u_T} {fs : List Value} {x : Value} {H H1 : Heap} {cell : Cell} (hI : pr_I b D aC h H) (hc : pr_cl[ci]? = some (C, T, N)) (ho : h[k]? = some (.inr (ci, fs))) (hl : kf < fs.length) (hk : kf < N)
    (hap : ∀ x y, x < N → y < N → x ≠ y → (D.2 ci) x ≠ (D.2 ci) y) (q2 : cell.cls = D.1 ci) (q3 : cell.vm = .none) (q4 : ∀ k, k < N → cell.slots[D.2 ci k]? = some (vp_V (fs.map (pr_v b)) k))
    (e1 : H1[b.1 + k]? = some (cell.setSlot (D.2 ci kf) (pr_v b x))) (e2 : H1.size = H.size) (e3 : ∀ q : Nat, q ≠ b.1 + k → H1[q]? = H[q]?) : pr_I b D aC (h.set k (.inr (ci, fs.set kf x))) H1 := by
  refine hI.set ho ⟨_, hc, ?_⟩ e2 e3
  refine t_OB.to (V := updV (vp_V (fs.map (pr_v b))) kf (pr_v b x)) ⟨_, e1, q2, q3, t_set q4 hap hk _⟩ (fun j _ => ?_)
  rw [vp_updV_set (by rw [List.length_map]; exact hl), List.map_set]
theorem pr_putf {idx ci k kf N : Nat} {C : String} {T : u_T} {ty : Nat → FieldType} {fs : List Value} {x : Value} (hd : decode mi.2.1 pc = .ok (.putfield idx, 3)) (hC : pr_cf ci C T N ty) (hk : kf < N) (hlink : Cond.fieldLink mi.1.cls idx (T kf).1 (T kf).2.1 (T kf).2.2.1 ∈ pr_G) (hfin : (T kf).2.2.2 = false) (ho : h[k]? = some (.inr (ci, fs))) (hl : kf < fs.length)
    (hnf : ∀ b, narrow (ty kf) (pr_v b x) = pr_v b x ∧ fits (ty kf) (pr_v b x) = true) (kk : pr_R d mi (pc + 3) lo st (h.set k (.inr (ci, fs.set kf x))) v h') : pr_R d mi pc lo (x :: .ref k :: st) h v h' := by
  refine pr_toH kk List.length_set (pr_sz_set ho (by simp [pr_s])) ?_
  intro b p l e R s m args below meth c H locs cells slots ls Q D aC X hI hS hlv go
  obtain ⟨hc, hin, hty, hnm⟩ := hC
  have hap := va_apart (own := mi.1.cls) X.ts hin ty hty hnm X.K hc
  obtain ⟨r, h1, cell, q1, q2, q3, q4⟩ := hI.1 k _ ho (pr_j_cl hc)
  have hr : r = (C, T, N) := Option.some.inj (h1.symm.trans hc)
  subst hr
  obtain ⟨hSl, hfc, kC, hkC, hkind⟩ := X.K.1 ci _ hc
  obtain ⟨cf, kfc, fi, f, hi, hsl⟩ := hSl kf hk
  have hlay := X.ts _ (hin _ (u_in_lay hk))
  unfold u_lay at hlay
  rw [if_neg (by rw [hfin]; decide)] at hlay
  have hst := (u_facts hfc hkC (u_lays X.ts hin hk) hi).1
  have h6 := u_store hfc hkC hkind hlay hi (hty kf hk) (hnf b).1 (hnf b).2
  refine W.putK X.1 X.2.1 (f := f) ⟨X.own, X.ts _ hlink, ⟨_, _, _, hi⟩, hst⟩ (by rw [q2]; exact h6) q1 q3 (by rw [hsl]; exact k2_hasslot (q4 kf hk)) rfl rfl hd fun H' e1 e2 e3 => ?_
  rw [hsl] at e1
  exact go H' _ (pr_stored hI hc ho hl hk hap q2 q3 q4 e1 e2 e3) (hS.put e2 e3 (Nat.le_add_right _ _))
theorem pr_putN {idx ci k kf N : Nat} {C host : String} {T : u_T} {ty : Nat → FieldType} {fs : List Value} {x : Value} (hd : decode mi.2.1 pc = .ok (.putfield idx, 3)) (hC : pr_cf ci C T N ty) (hk : kf < N) (hlink : (mi.1.cls, idx, (T kf).1, (T kf).2.1, (T kf).2.2.1, host) ∈ pz_nf) (hfin : (T kf).2.2.2 = false) (ho : h[k]? = some (.inr (ci, fs))) (hl : kf < fs.length)
    (hnf : ∀ b, narrow (ty kf) (pr_v b x) = pr_v b x ∧ fits (ty kf) (pr_v b x) = true) (kk : pr_R d mi (pc + 3) lo st (h.set k (.inr (ci, fs.set kf x))) v h') : pr_R d mi pc lo (x :: .ref k :: st) h v h' := by
  refine pr_toH kk List.length_set (pr_sz_set ho (by simp [pr_s])) ?_
  intro b p l e R s m args below meth c H locs cells slots ls Q D aC X hI hS hlv go
  obtain ⟨hc, hin, hty, hnm⟩ := hC
  have hap := va_apart (own := mi.1.cls) X.ts hin ty hty hnm X.K hc
  obtain ⟨r, h1, cell, q1, q2, q3, q4⟩ := hI.1 k _ ho (pr_j_cl hc)
  have hr : r = (C, T, N) := Option.some.inj (h1.symm.trans hc)
  subst hr
  obtain ⟨hSl, hfc, kC, hkC, hkind⟩ := X.K.1 ci _ hc
  obtain ⟨cf, kfc, fi, f, hi, hsl⟩ := hSl kf hk
  have hlay := X.ts _ (hin _ (u_in_lay hk))
  unfold u_lay at hlay
  rw [if_neg (by rw [hfin]; decide)] at hlay
  have hst := (u_facts hfc hkC (u_lays X.ts hin hk) hi).1
  have h6 := u_store hfc hkC hkind hlay hi (hty kf hk) (hnf b).1 (hnf b).2
  refine va_WputK X.1 X.2.1 (f := f) X.own (va_Nw.use rfl (X.Kz.2.nf hlink)) hi hst (by rw [q2]; exact h6) q1 q3 (by rw [hsl]; exact k2_hasslot (q4 kf hk)) rfl rfl hd fun H' e1 e2 e3 => ?_
  rw [hsl] at e1
  exact go H' _ (pr_stored hI hc ho hl hk hap q2 q3 q4 e1 e2 e3) (hS.put e2 e3 (Nat.le_add_right _ _))
theorem pr_putF {idx ci k kf N : Nat} {C : String} {T : u_T} {ty : Nat → FieldType} {fs : List Value} {x : Value} (hd : decode mi.2.1 pc = .ok (.putfield idx, 3)) (hC : pr_cf ci C T N ty) (hk : kf < N) (hlink : Cond.fieldLink mi.1.cls idx (T kf).1 (T kf).2.1 (T kf).2.2.1 ∈ pr_G) (hfin : (T kf).2.2.2 = true) (hini : mi.1.name = "<init>") (hdecl : (T kf).1 = mi.1.cls) (ho : h[k]? = some (.inr (ci, fs))) (hl : kf < fs.length)
    (hnf : ∀ b, narrow (ty kf) (pr_v b x) = pr_v b x ∧ fits (ty kf) (pr_v b x) = true) (kk : pr_R d mi (pc + 3) lo st (h.set k (.inr (ci, fs.set kf x))) v h') : pr_R d mi pc lo (x :: .ref k :: st) h v h' := by
  refine pr_toH kk List.length_set (pr_sz_set ho (by simp [pr_s])) ?_
  intro b p l e R s m args below meth c H locs cells slots ls Q D aC X hI hS hlv go
  obtain ⟨hc, hin, hty, hnm⟩ := hC
  have hap := va_apart (own := mi.1.cls) X.ts hin ty hty hnm X.K hc
  obtain ⟨r, h1, cell, q1, q2, q3, q4⟩ := hI.1 k _ ho (pr_j_cl hc)
  have hr : r = (C, T, N) := Option.some.inj (h1.symm.trans hc)
  subst hr
  obtain ⟨hSl, hfc, kC, hkC, hkind⟩ := X.K.1 ci _ hc
  obtain ⟨cf, kfc, fi, f, hi, hsl⟩ := hSl kf hk
  have hlay := X.ts _ (hin _ (u_in_lay hk))
  unfold u_lay at hlay
  rw [if_pos hfin] at hlay
  have hst := (u_facts hfc hkC (u_lays X.ts hin hk) hi).1
  have hcf : m.cls = cf := by
    obtain ⟨_, _, c', _, _, _, -, -, hf', -, -, -, hown2, -⟩ := Cond.laysFinal_spec hlay
    have e1 : c' = cf := by have := hi.symm.trans hf'; simp at this; exact this.1.symm
    rw [hdecl] at hown2
    rw [← e1]; exact Option.some.inj (X.own.symm.trans hown2)
  have h6 := u_fits hfc hkC hkind (Or.inr hlay) hi (hty kf hk) (hnf b).1 (hnf b).2
  refine W.putFinK X.1 X.2.1 X.own (X.ts _ hlink) hi hst hcf (X.nm.trans hini) (by rw [q2]; exact h6) q1 q3 (by rw [hsl]; exact k2_hasslot (q4 kf hk)) rfl rfl hd fun H' e1 e2 e3 => ?_
  rw [hsl] at e1
  exact go H' _ (pr_stored hI hc ho hl hk hap q2 q3 q4 e1 e2 e3) (hS.put e2 e3 (Nat.le_add_right _ _))
theorem pr_iald {k t n : Nat} {f : Nat → Int32} {i : Int32} (hd : decode mi.2.1 pc = .ok (.iaload, 1)) (ht : pr_tys[t]? = some .int) (ho : h[k]? = some (.inl (t, n, .inl f))) (hin : vp_in i n) (kk : pr_R d mi (pc + 1) lo (.int (f i.toNatClampNeg) :: st) h v h') : pr_R d mi pc lo (.int i :: .ref k :: st) h v h' :=
  pr_to kk fun b p l e R s m args below meth c H locs cells slots ls Q D aC X hI hl kW =>
    va_iald (D := D) (cA := aC t) (n := n) (f := f) X.1 X.2.1 X.K (hI.p ho rfl) 0 t rfl (pr_tl_at ht) hin hd kW
theorem pr_alen {k t : Nat} {a : vp_A} {ty : FieldType} (hd : decode mi.2.1 pc = .ok (.arraylength, 1)) (ht : pr_tys[t]? = some ty) (ho : h[k]? = some (.inl (t, a))) (kk : pr_R d mi (pc + 1) lo (.int (Int32.ofNat a.1) :: st) h v h') : pr_R d mi pc lo (.ref k :: st) h v h' :=
  pr_to kk fun b p l e R s m args below meth c H locs cells slots ls Q D aC X hI hl kW =>
    va_alen (D := D) (cA := aC t) (x := pr_a b a) X.1 X.2.1 X.K (hI.p ho rfl) 0 t rfl (pr_tl_at ht) rfl hd kW
theorem pr_iast {k t n : Nat} {f : Nat → Int32} {i x : Int32} (hd : decode mi.2.1 pc = .ok (.iastore, 1)) (ht : pr_tys[t]? = some .int) (ho : h[k]? = some (.inl (t, n, .inl f))) (hin : vp_in i n) (kk : pr_R d mi (pc + 1) lo st (h.set k (.inl (t, n, .inl (upd f i.toNatClampNeg x)))) v h') : pr_R d mi pc lo (.int x :: .int i :: .ref k :: st) h v h' := by
  refine pr_toH kk List.length_set (pr_sz_set ho rfl) ?_
  intro b p l e R s m args below meth c H locs cells slots ls Q D aC X hI hS hlv go
  refine W.iast X.1 X.2.1 (hI.1 k _ ho rfl) ((X.K.2 t _ (pr_tl_at ht)).1 n (fun j => .int (f j))) (fun q => by cases q) (by show ¬ (i < 0 ∨ (arrV _ _ _).slots.size ≤ _); rw [arrV_size]; exact hin) rfl rfl hd fun H1 e1 z oq => ?_
  refine go H1 _ (hI.set ho ?_ z oq) (hS.put z oq (Nat.le_add_right _ _))
  show H1[b.1 + k]? = some (vp_cell (aC t) (n, .inl (upd f i.toNatClampNeg x)))
  rw [e1]
  show some ((vp_cell (aC t) (n, .inl f)).setSlot _ _) = _
  rw [vp_cell_i, vp_cell_i, arrV_store]
  congr 2
  funext q
  by_cases hq : q = i.toNatClampNeg
  · subst hq
    simp [updV, upd]
  · simp [updV, upd, hq]
theorem pr_newI {t N : Nat} {n : Int32} (hd : decode mi.2.1 pc = .ok (.newarray .int, 2)) (ht : pr_tys[t]? = some .int) (hw : Cond.arrayClass .int ∈ pr_G) (hn : ¬ n < 0) (hN : n.toNatClampNeg = N) (hb : N ≤ 100000000) (kk : pr_R d mi (pc + 2) lo (.ref h.length :: st) (h ++ [.inl (t, N, .inl (fun _ => 0))]) v h') : pr_R d mi pc lo (.int n :: st) h v h' := by
  refine pr_toN kk ?_
  intro b p l e R s m args below meth c H locs cells slots ls Q D aC X hI hS hlv hc1 hc2 go
  refine va_newaK (N := N) X.1 X.2.1 (atype := .int) (X.ts _ hw) rfl hd rfl hn hN (by show N * 4 ≤ _; omega) hc1 hc2 hI.2 fun H1 cA e1 z1 o1 hAr hNm => ?_
  have hcA : cA = aC t := by
    have h1 := (X.K.2 t _ (pr_tl_at ht)).2
    exact Option.some.inj (hNm.symm.trans h1)
  subst hcA
  refine go H1 (hI.push (fun _ => e1) (by rw [z1]) (fun q hq => o1 q hq)) ⟨Nat.le_trans hS.1 (by rw [z1, hI.2]; omega), fun x q1 q2 => (o1 x (by have := hS.1; have := hI.2; omega)).trans (hS.2.1 x q1 q2), hS.2.2⟩
theorem pr_dv (b : pr_B) (ty : FieldType) : pr_v b (defaultValue ty) = defaultValue ty := by cases ty <;> rfl
theorem pr_new {idx ci N : Nat} {C : String} {T : u_T} {ty : Nat → FieldType} {fs : List Value} (hd : decode mi.2.1 pc = .ok (.new idx, 3)) (hC : pr_cf ci C T N ty) (hcl : Cond.classLink mi.1.cls idx C ∈ pr_G) (hins : Cond.instantiable C N ∈ pr_G) (hini : Cond.initialized C ∈ pr_G) (hlen : fs.length = N) (hfs : ∀ j, j < N → fs[j]? = some (defaultValue (ty j)))
    (kk : pr_R d mi (pc + 3) lo (.ref h.length :: st) (h ++ [.inr (ci, fs)]) v h') : pr_R d mi pc lo st h v h' := by
  refine pr_toN kk ?_
  intro b p l e R s m args below meth c H locs cells slots ls Q D aC X hI hS hlv hc1 hc2 go
  have hKn := X.K.1 ci _ hC.1
  have hsl : pr_s (.inr (ci, fs)) = N := hlen
  rw [hsl] at hc2 go
  refine W.newcK X.1 X.2.1 X.own (X.ts _ hcl) (X.ts _ hins) (X.ts _ hini) rfl hd hc1 hc2 hKn.2.1 hI.2 fun H1 kC hkC e1 z1 o1 => ?_
  refine go H1 (hI.push (fun _ => ?_) (by rw [z1]) (fun q hq => o1 q hq)) ⟨Nat.le_trans hS.1 (by rw [z1, hI.2]; omega), fun x q1 q2 => (o1 x (by have := hS.1; have := hI.2; omega)).trans (hS.2.1 x q1 q2), hS.2.2⟩
  refine ⟨_, hC.1, (u_born ty X.ts hC.2.1 hKn hkC e1 hC.2.2.1).to fun j hj => ?_⟩
  show defaultValue (ty j) = vp_V (fs.map (pr_v b)) j
  simp [vp_V, hfs j hj, pr_dv]
theorem pr_objInit {idx k : Nat} (hd : decode mi.2.1 pc = .ok (.invokespecial idx, 3)) (h1 : Cond.methodLink mi.1.cls idx objectInit ∈ pr_G) (h2 : Cond.instanceMethod objectInit ∈ pr_G) (h3 : Cond.code objectInit ⟨#[0xb1]⟩ 1 none ∈ pr_G) (hst : (st.map fun v => v.category).sum ≤ 8)
    (kk : pr_R (d + 1) mi (pc + 3) lo st h v h') : pr_R (d + 1) mi pc lo (.ref k :: st) h v h' :=
  pr_to kk fun b p l e R s m args below meth c H locs cells slots ls Q D aC X hI hl kW => by
    have hr := X.fr
    have hs2 : ((st.map (pr_v b)).map fun v => v.category).sum ≤ 8 := by rw [List.map_map]; simpa only [Function.comp_def, pr_v_cat] using hst
    exact W.objInit X.1 X.2.1 X.own (X.ts _ h1) (X.ts _ h2) (X.ts _ h3) rfl (by rw [X.2.2.2.1]; exact hl.1) rfl hd (by omega) (by show 2 * 0 + _ + 12 ≤ _; omega) kW
theorem pr_ldc {idx : Nat} {x : Int32} (hd : decode mi.2.1 pc = .ok (.ldc idx, 2)) (hw : Cond.constant mi.1.cls idx x ∈ pr_G) (kk : pr_R d mi (pc + 2) lo (.int x :: st) h v h') : pr_R d mi pc lo st h v h' :=
  pr_to kk fun b p l e R s m args below meth c H locs cells slots ls Q D aC X hI hl kW => lv_ldc X.1 X.2.1 X.own (X.ts _ hw) hd kW
theorem pr_ldcw {idx : Nat} {x : Int32} (hd : decode mi.2.1 pc = .ok (.ldc_w idx, 3)) (hw : Cond.constant mi.1.cls idx x ∈ pr_G) (kk : pr_R d mi (pc + 3) lo (.int x :: st) h v h') : pr_R d mi pc lo st h v h' :=
  pr_to kk fun b p l e R s m args below meth c H locs cells slots ls Q D aC X hI hl kW => lv_ldcw X.1 X.2.1 X.own (X.ts _ hw) hd kW
end PRH
