/-! the loop of the reference's Store.clear as one op; a switch by a table as an op -/
theorem pr_put1_put1 (lo : pr_L) (i : Nat) (x y : Value) : pr_put1 (pr_put1 lo i x) i y = pr_put1 lo i y := by
  unfold pr_put1
  rw [List.filter_cons, if_neg (by simp), List.filter_filter]
  simp only [Bool.and_self]
theorem pr_get_put1 (lo : pr_L) (i : Nat) (x : Value) : pr_get (pr_put1 lo i x) i = some x := by
  unfold pr_get pr_put1
  rw [List.find?_cons]
  simp
theorem pr_get_put0 {i j : Nat} {w x : Value} (hij : ¬ i = j) (hw : w.category = 1) : ∀ {lo : pr_L}, pr_get lo j = some w → pr_get (pr_put1 lo i x) j = some w := by
  intro lo hg
  unfold pr_get at hg ⊢
  unfold pr_put1
  rw [List.find?_cons]
  have h1 : ((i, x).1 == j) = false := by simpa using hij
  rw [h1]
  show Option.map _ (List.find? _ (List.filter _ lo)) = _
  induction lo with
  | nil => cases hg
  | cons q lo ih =>
    rw [List.find?_cons] at hg
    rw [List.filter_cons]
    cases hq : (q.1 == j) with
    | true =>
      rw [hq] at hg
      have hqj : q.1 = j := by simpa using hq
      have hqw : q.2 = w := Option.some.inj hg
      have hk : (!(q.1 == i) && !(q.1 + 1 == i && q.2.category == 2)) = true := by
        have a1 : (q.1 == i) = false := by
          rw [hqj]
          simpa using fun e => hij (Eq.symm e)
        rw [a1, hqw, hw]
        simp
      rw [if_pos hk, List.find?_cons, hq]
      exact hg
    | false =>
      rw [hq] at hg
      have hi := ih hg
      by_cases hk : (!(q.1 == i) && !(q.1 + 1 == i && q.2.category == 2)) = true
      · rw [if_pos hk, List.find?_cons, hq]
        exact hi
      · rw [if_neg hk]
        exact hi
/-- two contents of an array that are alike within it -/
theorem pr_vpext {cA : ClassId} {n : Nat} {f g : Nat → Int32} (hfg : ∀ j, j < n → f j = g j) : vp_cell cA (n, .inl f) = vp_cell cA (n, .inl g) := by
  rw [vp_cell_i, vp_cell_i]
  unfold arrV
  congr 1
  apply Array.ext
  · simp
  · intro i h1 h2
    have : i < n := by simpa using h1
    simp [hfg i this]
theorem pr_ext {d : Nat} {mi : pr_M} {pc : Nat} {lo : pr_L} {st : List Value} {h : pr_H} {v : Option Value} {h' : pr_H} {k n t : Nat} {f g : Nat → Int32} (hfg : ∀ j, j < n → f j = g j) (hk : k < h.length) (kk : pr_R d mi pc lo st (h.set k (.inl (t, n, .inl g))) v h') : pr_R d mi pc lo st (h.set k (.inl (t, n, .inl f))) v h' := by
  have hl : (h.set k (.inl (t, n, .inl f))).length = (h.set k (.inl (t, n, .inl g))).length := by simp
  have hg0 : (h.set k (.inl (t, n, .inl g)))[k]? = some (.inl (t, n, .inl g)) := List.getElem?_set_self hk
  have hs : pr_sz (h.set k (.inl (t, n, .inl f))) = pr_sz (h.set k (.inl (t, n, .inl g))) := by
    have := pr_sz_set (y := (.inl (t, n, .inl f) : pr_C)) hg0 rfl
    rw [List.set_set] at this
    exact this
  refine ⟨hl ▸ kk.1, hs ▸ kk.2.1, fun D aC b p l e R s m args below meth c X H locs cells slots ls hI hS hlv e1 e2 => ?_⟩
  rw [hl] at e1 ⊢
  rw [hs] at e2 ⊢
  refine kk.2.2 D aC b p l e R s m args below meth c X H locs cells slots ls ⟨fun i x hi hj => ?_, by rw [hI.2, hl]⟩ hS hlv e1 e2
  by_cases hik : i = k
  · subst hik
    rw [List.getElem?_set_self hk] at hi
    cases hi
    have h1 := hI.1 i _ (List.getElem?_set_self hk) rfl
    show H[b.1 + i]? = some (vp_cell (aC t) (n, .inl g))
    rw [← pr_vpext hfg]
    exact h1
  · rw [List.getElem?_set_ne (Ne.symm hik)] at hi
    exact hI.1 i x (by rw [List.getElem?_set_ne (Ne.symm hik)]; exact hi) hj
theorem dclr_12 : decode cX13_clear 12 = .ok (.iload_n 1, 1) := by decide +kernel
theorem dclr_13 : decode cX13_clear 13 = .ok (.sipush 16384, 3) := by decide +kernel
theorem dclr_16 : decode cX13_clear 16 = .ok (.if_icmp .ge 16, 3) := by decide +kernel
theorem dclr_19 : decode cX13_clear 19 = .ok (.aload_n 0, 1) := by decide +kernel
theorem dclr_20 : decode cX13_clear 20 = .ok (.getfield 38, 3) := by decide +kernel
theorem dclr_23 : decode cX13_clear 23 = .ok (.iload_n 1, 1) := by decide +kernel
theorem dclr_24 : decode cX13_clear 24 = .ok (.iconst (-1), 1) := by decide +kernel
theorem dclr_25 : decode cX13_clear 25 = .ok (.iastore, 1) := by decide +kernel
theorem dclr_26 : decode cX13_clear 26 = .ok (.iinc 1 1, 3) := by decide +kernel
theorem dclr_29 : decode cX13_clear 29 = .ok (.goto (-17), 3) := by decide +kernel
set_option maxRecDepth 20000 in
theorem pr_clearLoop {d a k : Nat} {lo : pr_L} {fs : List Value} {h : pr_H} {v : Option Value} {h' : pr_H} (h0 : pr_get lo 0 = some (.ref a)) (ha : h[a]? = some (.inr (13, fs))) (hf : fs[10]? = some (.ref k)) (hak : ¬ k = a) (hk : k < h.length)
    (kk : pr_R (d + 1) m_95 32 (pr_put1 lo 1 (.int 16384)) [] (h.set k (.inl (0, 16384, .inl (fun _ => -1)))) v h') :
    ∀ (r i : Nat) (f : Nat → Int32), i + r = 16384 → (∀ j, j < i → f j = -1) → pr_R (d + 1) m_95 12 (pr_put1 lo 1 (.int (nI i))) [] (h.set k (.inl (0, 16384, .inl f))) v h' := by
  intro r
  induction r with
  | zero =>
    intro i f hi hfj
    have hi : i = 16384 := by omega
    subst hi
    refine pr_iload_n (q := 1) dclr_12 (pr_get_put1 _ _ _) ?_
    refine pr_sipush dclr_13 ?_
    refine pr_icmp_ge (tgt := 32) dclr_16 (by decide) (fun _ => ?_) (fun hn => absurd (by decide +kernel) hn)
    refine pr_ext (g := fun _ => -1) hfj hk ?_
    exact kk
  | succ r ih =>
    intro i f hi hfj
    refine pr_iload_n (q := 1) dclr_12 (pr_get_put1 _ _ _) ?_
    refine pr_sipush dclr_13 ?_
    refine pr_icmp_ge (tgt := 32) dclr_16 (by decide) (fun hc => ?_) (fun _ => ?_)
    · exact absurd (show nI 16384 ≤ nI i from hc) (nI_ge (by omega) (by omega))
    refine pr_aload_n (q := 0) dclr_19 (pr_get_put0 (by decide) rfl h0) ?_
    refine pr_getf (kf := 10) dclr_20 cf_13 (by decide) wd_452 (fs := fs) ?_ hf ?_
    · rw [List.getElem?_set_ne hak]; exact ha
    refine pr_iload_n (q := 1) dclr_23 (pr_get_put1 _ _ _) ?_
    refine pr_iconst dclr_24 ?_
    refine pr_iast (t := 0) (n := 16384) (f := f) dclr_25 rfl (List.getElem?_set_self hk) (nI_in (by omega) (by omega)) ?_
    rw [List.set_set]
    refine pr_iinc (i := 1) (n := 1) dclr_26 (pr_get_put1 _ _ _) (by decide) ?_
    refine pr_goto (tgt := 12) dclr_29 (by decide) ?_
    rw [pr_put1_put1, show nI i + Int32.ofInt 1 = nI (i + 1) from nI_1 i]
    refine ih (i + 1) _ (by omega) (fun j hj => ?_)
    rw [nI_clamp (by omega)]
    unfold upd
    by_cases hji : j = i
    · rw [if_pos hji]; rfl
    · rw [if_neg hji]; exact hfj j (by omega)
noncomputable def po_clear (nx : Nat) : pr_Op := fun _ lo st h => match st with
  | [] => match pr_lg lo 0 with
    | some (.ref a) => match pr_at h a with
      | some (.inr (13, fs)) => match pr_at fs 10 with
        | some (.ref k) => match pr_at h k with
          | some (.inl (0, 16384, .inl _)) => match pr_lg lo 1 with
            | some (.int i) => if i = 0 then pr_wr (.inl (0, 16384, .inl (fun _ => -1))) h k (fun h => pr_rm 1 lo (fun l => some (nx, (1, .int 16384) :: l, [], h))) else none
            | _ => none
          | _ => none
        | _ => none
      | _ => none
    | _ => none
  | _ => none
theorem pr_put1_self {i : Nat} {w : Value} : ∀ {lo : pr_L} {d : Nat} {mi : pr_M} {pc : Nat} {st : List Value} {h : pr_H} {v : Option Value} {h' : pr_H}, pr_get lo i = some w → pr_R d mi pc (pr_put1 lo i w) st h v h' → pr_R d mi pc lo st h v h' := by
  intro lo d mi pc st h v h' hg kk
  refine ⟨kk.1, kk.2.1, fun D aC b p l e R s m args below meth c X H locs cells slots ls hI hS hlv e1 e2 => ?_⟩
  refine kk.2.2 D aC b p l e R s m args below meth c X H locs cells slots ls hI hS ⟨hlv.1, hlv.2.1, fun q hq => ?_⟩ e1 e2
  obtain ⟨q0, h0, rfl⟩ := List.mem_map.mp hq
  rcases List.mem_cons.mp h0 with rfl | h0
  · exact pr_get_at hlv hg
  · exact hlv.2.2 _ (List.mem_map.mpr ⟨q0, (List.mem_filter.mp h0).1, rfl⟩)
theorem os_clear {ms : List pr_M} : pr_oS ms m_95 12 (po_clear 32) := by
  intro d call lo st h pc1 lo1 st1 h1 v h' _ ho k
  unfold po_clear at ho
  split at ho
  · split at ho
    · rename_i a h0
      rw [pr_lg_eq] at h0
      split at ho
      · rename_i fs ha
        rw [pr_at_eq] at ha
        split at ho
        · rename_i kx hf
          rw [pr_at_eq] at hf
          split at ho
          · rename_i f hkx
            rw [pr_at_eq] at hkx
            split at ho
            · rename_i i hi
              rw [pr_lg_eq] at hi
              by_cases hz : i = 0
              · rw [if_pos hz, pr_wr_eq, pr_rm_put 1 (.int 16384) lo (fun l => some (32, l, [], _))] at ho
                cases ho
                subst hz
                have hkl := (List.getElem?_eq_some_iff.mp hkx).1
                have hak : ¬ kx = a := fun e => by
                  rw [e, ha] at hkx
                  cases hkx
                have := pr_clearLoop h0 ha hf hak hkl k 16384 0 f rfl (fun j hj => absurd hj (Nat.not_lt_zero _))
                rw [nI_0] at this
                have hset : h.set kx (.inl (0, 16384, .inl f)) = h := by
                  apply List.ext_getElem?
                  intro j
                  by_cases hj : kx = j
                  · subst hj
                    rw [List.getElem?_set_self hkl]; exact hkx.symm
                  · rw [List.getElem?_set_ne hj]
                rw [hset] at this
                exact pr_put1_self hi this
              · rw [if_neg hz] at ho; cases ho
            · cases ho
          · cases ho
        · cases ho
      · cases ho
    · cases ho
  · cases ho
noncomputable def po_tab (tg : List Nat) : pr_Op := fun _ lo st h => match st with
  | .int x :: st => if x < 0 then none else match pr_at tg x.toNatClampNeg with
    | some t => some (t, lo, st, h)
    | none => none
  | _ => none
theorem os_tab {ms : List pr_M} {mi : pr_M} {pc len : Nat} {dflt hi : Int} {offs : Array Int} {tg : List Nat} (hd : decode mi.2.1 pc = .ok (.tableswitch dflt 0 hi offs, len)) (hhi : hi = (tg.length : Int) - 1) (hall : ∀ i, i < tg.length → (offs[i]?).map (fun o => (pc : Int) + o) = some ((tg.getD i 0 : Nat) : Int)) : pr_oS ms mi pc (po_tab tg) := by
  intro d call lo st h pc1 lo1 st1 h1 v h' _ ho k
  unfold po_tab at ho
  split at ho
  · rename_i x st
    by_cases hx : x < 0
    · rw [if_pos hx] at ho; cases ho
    · rw [if_neg hx] at ho
      split at ho
      · rename_i t ht
        rw [pr_at_eq] at ht
        cases ho
        have hlt := (List.getElem?_eq_some_iff.mp ht).1
        have h0 : (0 : Int) ≤ x.toInt := by
          have := Int32.not_lt.mp hx
          simpa using Int32.le_iff_toInt_le.mp this
        have hn : (x.toInt - 0).toNat = x.toNatClampNeg := by rw [Int.sub_zero]; rfl
        have hc : x.toInt = (x.toNatClampNeg : Int) := by
          show x.toInt = ((x.toInt.toNat : Nat) : Int)
          omega
        have ha := hall _ hlt
        cases ho2 : offs[x.toNatClampNeg]? with
        | none => rw [ho2] at ha; cases ha
        | some off =>
          rw [ho2] at ha
          have ha : (pc : Int) + off = ((tg.getD x.toNatClampNeg 0 : Nat) : Int) := Option.some.inj ha
          have hg : tg.getD x.toNatClampNeg 0 = pc1 := by simp [List.getD, ht]
          rw [hg] at ha
          exact pr_tabIn hd (by omega) (by rw [hhi, hc]; omega) (by rw [hn]; exact ho2) ha k
      · cases ho
  · cases ho
