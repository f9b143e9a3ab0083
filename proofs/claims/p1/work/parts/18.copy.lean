/-! System.arraycopy between two int arrays; a switch by a table -/
section PRCP
variable {p : Program} {l : Launch} {e : Env} {R : Room} {s : State} {m : MethodId} {args : Array Value} {below : List Frame} {meth : Method} {c : Code} {H : Heap} {locs : List Loc} {cells slots : Nat} {Q : State → Prop}
variable {pc : Nat} {ls : Array Slot} {rest : List Value}
theorem pr_copyW {cc : ByteArray} (hexec : p.tables.exec = Jvm.exec) (hb : c.code = cc) (hml : c.maxLocals = ls.size) {own : String} {index : Nat} (hown : s.vm.findClass own = some m.cls) (hlink : (Cond.methodLink own index arraycopyName).before args s = true) (hnat : (Cond.native arraycopyName).before args s = true) (hstat : (Cond.static arraycopyName).before args s = true) (hini : (Cond.initialized "java/lang/System").before args s = true)
    {a0 a : Nat} {c0 : ClassId} {n0 n1 : Nat} {f g : Nat → Int32} (hc0 : H[a0]? = some (vp_cell c0 (n0, .inl f))) (hc1 : H[a]? = some (vp_cell c0 (n1, .inl g))) (hA : ArrOfT s c0 .int)
    {sp dp n : Int32} (h1 : ¬ sp < 0) (h2 : ¬ dp < 0) (h3 : ¬ n < 0) (h4 : sp.toNatClampNeg + n.toNatClampNeg ≤ n0) (h5 : dp.toNatClampNeg + n.toNatClampNeg ≤ n1)
    (hframes : 1 ≤ R.frames) (hlocals : (rest.map fun v => v.category).sum + (nativeFrameWords "java/lang/System" "arraycopy" 5 + 11) ≤ R.locals) (hdg : decode cc pc = .ok (.invokestatic index, 3))
    (kk : ∀ (H1 : Heap) (L : List Loc), H1[a]? = some (vp_cell c0 (n1, .inl (va_cpy f g sp.toNatClampNeg dp.toNatClampNeg n.toNatClampNeg))) → H1.size = H.size → (∀ q : Nat, q ≠ a → H1[q]? = H[q]?) → (∀ z ∈ L, z.base = a) → W p l e R s m args below meth c H1 (locs ++ L) cells slots Q (F0 m (pc + 3) ls rest)) : W p l e R s m args below meth c H locs cells slots Q (F0 m pc ls (.int n :: .int dp :: .ref a :: .int sp :: .ref a0 :: rest)) := by
  have nn : ∀ z : Int32, ¬ z < 0 → z.toInt = (z.toNatClampNeg : Int) := by
    intro z hz
    have hz0 : (0 : Int) ≤ z.toInt := by
      have := Int32.not_lt.mp hz
      simpa using Int32.le_iff_toInt_le.mp this
    show z.toInt = ((z.toInt.toNat : Nat) : Int)
    omega
  intro T hT X
  obtain ⟨-, k0, hk0, cm0, hkk0⟩ := hA n0 (fun j => .int (f j))
  obtain ⟨-, k1, hk1, cm1, hkk1⟩ := hA n1 (fun j => .int (g j))
  obtain ⟨vm', X', step⟩ := X.arraycopy hexec hown hlink hnat hstat hini (src := a0) (dst := a) (cs := vp_cell c0 (n0, .inl f)) (cd := vp_cell c0 (n1, .inl g)) (srcPos := sp) (destPos := dp) (n := n) (by rw [hT]; exact hc0) (by rw [hT]; exact hc1)
    (fun _ h => by cases h) (fun _ h => by cases h) (fun h => by cases h) (fun h => by cases h) hk0 hk1 hkk0 hkk1 (by simp [refKind]) h1 h2 h3
    (by rw [nn sp h1, nn n h3]; show ¬ _ > ((arrV c0 n0 (fun j => .int (f j))).slots.size : Int); rw [arrV_size]; omega)
    (by rw [nn dp h2, nn n h3]; show ¬ _ > ((arrV c0 n1 (fun j => .int (g j))).slots.size : Int); rw [arrV_size]; omega)
    (fun vm₁ _ i hi => by
      have e : (vp_cell c0 (n0, .inl f)).slots.getD (sp.toNatClampNeg + i) .null = .int (f (sp.toNatClampNeg + i)) := by
        show (arrV c0 n0 (fun j => .int (f j))).slots.getD _ _ = _
        rw [Array.getD_eq_getD_getElem?, arrV_read _ _ (by omega)]
        rfl
      refine ⟨?_, ?_⟩
      · rw [e]; rfl
      · rw [e]; exact trivial)
    (g := F0 m pc ls (.int n :: .int dp :: .ref a :: .int sp :: .ref a0 :: rest)) rfl (by rw [hml]) (rest := rest) rfl (by rw [hb]; exact hdg) hframes (by show 2 * 0 + _ + _ ≤ _; omega)
  have e1 : copied (vp_cell c0 (n0, .inl f)) (vp_cell c0 (n1, .inl g)) sp dp n = vp_cell c0 (n1, .inl (va_cpy f g sp.toNatClampNeg dp.toNatClampNeg n.toNatClampNeg)) := va_copied (fun z => .int z) c0 c0 f g h4
  rw [e1] at X' step
  have hl : a < H.size := (Array.getElem?_eq_some_iff.mp hc1).1
  have hheap : ((T.setVm vm').setCell a (vp_cell c0 (n1, .inl (va_cpy f g sp.toNatClampNeg dp.toNatClampNeg n.toNatClampNeg)))).heap = H.setIfInBounds a (vp_cell c0 (n1, .inl (va_cpy f g sp.toNatClampNeg dp.toNatClampNeg n.toNatClampNeg))) := by rw [← hT]; rfl
  obtain ⟨t, a1, b1⟩ := kk _ _ (by simp [Array.getElem?_setIfInBounds, hl]) (by simp) (fun q hq => by simp [Array.getElem?_setIfInBounds, Ne.symm hq]) (fun z hz => by
      obtain ⟨z', -, hz'⟩ := List.mem_map.mp hz
      rw [← hz']) _ hheap X'
  exact ⟨t, step t a1, b1⟩
end PRCP
section PRCQ
variable {d : Nat} {mi : pr_M} {pc pc1 : Nat} {lo : List (Nat × Value)} {st : List Value} {h : pr_H} {v : Option Value} {h' : pr_H}
theorem pr_copy {idx k0 k1 n0 n1 : Nat} {f g : Nat → Int32} {sp dp n : Int32} (hd : decode mi.2.1 pc = .ok (.invokestatic idx, 3)) (hl : Cond.methodLink mi.1.cls idx arraycopyName ∈ pr_G) (hna : Cond.native arraycopyName ∈ pr_G) (hst : Cond.static arraycopyName ∈ pr_G) (hini : Cond.initialized "java/lang/System" ∈ pr_G)
    (ho0 : h[k0]? = some (.inl (0, n0, .inl f))) (ho1 : h[k1]? = some (.inl (0, n1, .inl g))) (h1 : ¬ sp < 0) (h2 : ¬ dp < 0) (h3 : ¬ n < 0) (h4 : sp.toNatClampNeg + n.toNatClampNeg ≤ n0) (h5 : dp.toNatClampNeg + n.toNatClampNeg ≤ n1) (hsm : (st.map fun v => v.category).sum ≤ 8)
    (kk : pr_R (d + 1) mi (pc + 3) lo st (h.set k1 (.inl (0, n1, .inl (va_cpy f g sp.toNatClampNeg dp.toNatClampNeg n.toNatClampNeg)))) v h') : pr_R (d + 1) mi pc lo (.int n :: .int dp :: .ref k1 :: .int sp :: .ref k0 :: st) h v h' := by
  refine pr_toH kk List.length_set (pr_sz_set ho1 rfl) ?_
  intro b p l e R s m args below meth c H locs cells slots ls Q D aC X hI hS hlv go
  have hr := X.fr
  have hcs := pr_catS (b := b) hsm
  refine pr_copyW (rest := st.map (pr_v b)) (c0 := aC 0) (f := f) (g := g) X.1 X.2.1 (by rw [X.2.2.2.1]; exact hlv.1.symm) X.own (X.ts _ hl) (X.ts _ hna) (X.ts _ hst) (X.ts _ hini) (hI.1 k0 _ ho0 rfl) (hI.1 k1 _ ho1 rfl) (X.K.2 0 _ (pr_tl_at rfl)).1 h1 h2 h3 h4 h5 (by omega) (by show _ + (7 + 11) ≤ _; omega) hd fun H1 L e1 z oq hL => ?_
  refine go H1 _ (hI.set ho1 e1 z oq) ⟨by rw [z]; exact hS.1, fun q g1 g2 => (oq q (fun e => g2 (by rw [e]; exact Nat.le_add_right _ _))).trans (hS.2.1 q g1 g2), fun q hq => ?_⟩
  rcases List.mem_append.mp hq with h | h
  · exact hS.2.2 q h
  · rw [hL q h]; exact Nat.le_add_right _ _
theorem pr_tabIn {dflt lo0 hi off : Int} {offs : Array Int} {len tgt : Nat} {x : Int32} (hd : decode mi.2.1 pc = .ok (.tableswitch dflt lo0 hi offs, len)) (h1 : ¬ x.toInt < lo0) (h2 : ¬ hi < x.toInt) (ho : offs[(x.toInt - lo0).toNat]? = some off) (ht : (pc : Int) + off = (tgt : Int)) (k : pr_R d mi tgt lo st h v h') : pr_R d mi pc lo (.int x :: st) h v h' :=
  pr_to k fun b p l e R s m args below meth c H locs cells slots ls Q D aC X hI hl kk => lv_tableIn X.1 X.2.1 hd h1 h2 ho ht kk
theorem pr_tabOut {dflt lo0 hi : Int} {offs : Array Int} {len tgt : Nat} {x : Int32} (hd : decode mi.2.1 pc = .ok (.tableswitch dflt lo0 hi offs, len)) (h1 : x.toInt < lo0 ∨ hi < x.toInt) (ht : (pc : Int) + dflt = (tgt : Int)) (k : pr_R d mi tgt lo st h v h') : pr_R d mi pc lo (.int x :: st) h v h' :=
  pr_to k fun b p l e R s m args below meth c H locs cells slots ls Q D aC X hI hl kk => lv_tableOut X.1 X.2.1 hd h1 ht kk
end PRCQ
