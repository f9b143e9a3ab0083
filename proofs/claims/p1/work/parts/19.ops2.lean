/-! MORE OPS -/
noncomputable def pr_nJ (n : Nat) : Int64 := Int64.ofBitVec (BitVec.ofNat 64 n)
theorem pr_nJ_eq (x : Int64) : pr_nJ x.toBitVec.toNat = x := by
  unfold pr_nJ
  rw [BitVec.ofNat_toNat, BitVec.setWidth_eq]
  rfl
/-- a long, evaluated before it goes on -/
noncomputable def pr_fj {α : Type} (x : Int64) (k : Int64 → α) : α := Nat.rec (motive := fun _ => α) (k (pr_nJ 0)) (fun n _ => k (pr_nJ (n + 1))) x.toBitVec.toNat
theorem pr_fj_eq {α : Type} (x : Int64) (k : Int64 → α) : pr_fj x k = k x := by
  unfold pr_fj
  have h := pr_nJ_eq x
  cases hn : x.toBitVec.toNat with
  | zero => rw [hn] at h; show k (pr_nJ 0) = k x; rw [h]
  | succ n => rw [hn] at h; show k (pr_nJ (n + 1)) = k x; rw [h]
noncomputable def pr_rm2 {β : Type} (i : Nat) (lo : List (Nat × Value)) (k : List (Nat × Value) → β) : β := List.rec (motive := fun _ => (List (Nat × Value) → β) → β) (fun k => k []) (fun q _ ih k => Bool.rec (motive := fun _ => β) (ih k) (ih (fun l => k (q :: l))) (!(q.1 == i) && (!(q.1 == i + 1) && !(q.1 + 1 == i && q.2.category == 2)))) lo k
theorem pr_rm2_eq {β : Type} (i : Nat) : ∀ (lo : List (Nat × Value)) (k : List (Nat × Value) → β), pr_rm2 i lo k = k (lo.filter (fun q => !(q.1 == i) && (!(q.1 == i + 1) && !(q.1 + 1 == i && q.2.category == 2))))
  | [], _ => rfl
  | q :: lo, k => by
    show Bool.rec (motive := fun _ => β) (pr_rm2 i lo k) (pr_rm2 i lo (fun l => k (q :: l))) (!(q.1 == i) && (!(q.1 == i + 1) && !(q.1 + 1 == i && q.2.category == 2))) = _
    rw [pr_rm2_eq i lo, pr_rm2_eq i lo, List.filter_cons]
    cases (!(q.1 == i) && (!(q.1 == i + 1) && !(q.1 + 1 == i && q.2.category == 2))) <;> rfl
theorem pr_rm2_put {β : Type} (i : Nat) (w : Value) (lo : List (Nat × Value)) (k : List (Nat × Value) → β) : pr_rm2 i lo (fun l => k ((i, w) :: l)) = k (pr_put2 lo i w) := pr_rm2_eq i lo _
section PRO2
variable {ms : List pr_M} {mi : pr_M} {pc : Nat}
noncomputable def po_lpush (x : Int64) (nx : Nat) : pr_Op := fun _ lo st h => some (nx, lo, .long x :: st, h)
theorem os_lconst {n : Fin 2} {x : Int64} (hd : decode mi.2.1 pc = .ok (.lconst n, 1)) (hx : Int64.ofNat (n : Nat) = x) : pr_oS ms mi pc (po_lpush x (pc + 1)) := by
  intro d call lo st h pc1 lo1 st1 h1 v h' _ ho k
  cases ho
  exact pr_lconst hd hx k
noncomputable def po_lload (i nx : Nat) : pr_Op := fun _ lo st h => match pr_lg lo i with
  | some (.long x) => some (nx, lo, .long x :: st, h)
  | _ => none
theorem os_lload_n {q : Fin 4} (hd : decode mi.2.1 pc = .ok (.lload_n q, 1)) : pr_oS ms mi pc (po_lload q.val (pc + 1)) := by
  intro d call lo st h pc1 lo1 st1 h1 v h' _ ho k
  unfold po_lload at ho
  split at ho
  · rename_i x hx
    rw [pr_lg_eq] at hx
    cases ho
    exact pr_lload_n hd hx k
  · cases ho
noncomputable def po_lstore (i nx : Nat) : pr_Op := fun _ lo st h => match st with
  | .long x :: st => pr_rm2 i lo (fun l => some (nx, (i, .long x) :: l, st, h))
  | _ => none
theorem os_lstore_n {q : Fin 4} (hd : decode mi.2.1 pc = .ok (.lstore_n q, 1)) (hn : q.val + 1 < mi.2.2.1) : pr_oS ms mi pc (po_lstore q.val (pc + 1)) := by
  intro d call lo st h pc1 lo1 st1 h1 v h' _ ho k
  unfold po_lstore at ho
  split at ho
  · rename_i x st
    rw [pr_rm2_put q.val (.long x) lo (fun l => some (pc + 1, l, st, h))] at ho
    cases ho
    exact pr_lstore_n hd hn k
  · cases ho
noncomputable def po_lor (nx : Nat) : pr_Op := fun _ lo st h => match st with
  | .long y :: .long x :: st => pr_fj (x ||| y) (fun z => some (nx, lo, .long z :: st, h))
  | _ => none
theorem os_lor (hd : decode mi.2.1 pc = .ok (.lor, 1)) : pr_oS ms mi pc (po_lor (pc + 1)) := by
  intro d call lo st h pc1 lo1 st1 h1 v h' _ ho k
  unfold po_lor at ho
  split at ho
  · rw [pr_fj_eq] at ho
    cases ho
    exact pr_lor hd k
  · cases ho
noncomputable def po_lshl (nx : Nat) : pr_Op := fun _ lo st h => match st with
  | .int y :: .long x :: st => pr_fj (x <<< (y.toInt64 &&& 63)) (fun z => some (nx, lo, .long z :: st, h))
  | _ => none
theorem os_lshl (hd : decode mi.2.1 pc = .ok (.lshl, 1)) : pr_oS ms mi pc (po_lshl (pc + 1)) := by
  intro d call lo st h pc1 lo1 st1 h1 v h' _ ho k
  unfold po_lshl at ho
  split at ho
  · rw [pr_fj_eq] at ho
    cases ho
    exact pr_lshl hd k
  · cases ho
noncomputable def po_i2l (nx : Nat) : pr_Op := fun _ lo st h => match st with
  | .int x :: st => pr_fj x.toInt64 (fun z => some (nx, lo, .long z :: st, h))
  | _ => none
theorem os_i2l (hd : decode mi.2.1 pc = .ok (.i2l, 1)) : pr_oS ms mi pc (po_i2l (pc + 1)) := by
  intro d call lo st h pc1 lo1 st1 h1 v h' _ ho k
  unfold po_i2l at ho
  split at ho
  · rw [pr_fj_eq] at ho
    cases ho
    exact pr_i2l hd k
  · cases ho
theorem os_i2c (hd : decode mi.2.1 pc = .ok (.i2c, 1)) : pr_oS ms mi pc (po_i1 (fun x => (x.toUInt32 % 65536).toInt32) (pc + 1)) := by
  intro d call lo st h pc1 lo1 st1 h1 v h' _ ho k
  unfold po_i1 at ho
  split at ho
  · rw [pr_fi_eq] at ho
    cases ho
    exact pr_i2c hd k
  · cases ho
noncomputable def re_l : pr_Re := fun st h => match st with
  | [.long x] => some (some (.long x), h)
  | _ => none
theorem rs_l (hd : decode mi.2.1 pc = .ok (.lreturn, 1)) (hr : mi.2.2.2 = some .long) : pr_rS mi pc re_l := by
  intro d lo st h v h' ho
  unfold re_l at ho
  split at ho
  · cases ho; exact pr_lreturn hd hr
  · cases ho
/-- a narrow int goes back: it must be one already -/
noncomputable def re_n (ty : FieldType) : pr_Re := fun st h => match st with
  | [.int x] => match narrow ty (.int x) with
    | .int y => if y = x then some (some (.int x), h) else none
    | _ => none
  | _ => none
theorem rs_n {ty : FieldType} (hd : decode mi.2.1 pc = .ok (.ireturn, 1)) (hr : mi.2.2.2 = some ty) : pr_rS mi pc (re_n ty) := by
  intro d lo st h v h' ho
  unfold re_n at ho
  split at ho
  · rename_i x
    split at ho
    · rename_i y hy
      by_cases hxy : y = x
      · rw [if_pos hxy] at ho
        cases ho
        exact pr_zreturn hd hr (by rw [hy, hxy])
      · rw [if_neg hxy] at ho; cases ho
    · cases ho
  · cases ho
noncomputable def po_last (nx : Nat) : pr_Op := fun _ lo st h => match st with
  | .long x :: .int i :: .ref k :: st => match pr_at h k with
    | some (.inl (1, n, .inr (.inl f))) => if i < 0 ∨ n ≤ i.toNatClampNeg then none else pr_fn i.toNatClampNeg (fun j => pr_wr (.inl (1, n, .inr (.inl (vp_updL f j x)))) h k (fun h => some (nx, lo, st, h)))
    | _ => none
  | _ => none
theorem os_last (hd : decode mi.2.1 pc = .ok (.lastore, 1)) : pr_oS ms mi pc (po_last (pc + 1)) := by
  intro d call lo st h pc1 lo1 st1 h1 v h' _ ho k
  unfold po_last at ho
  split at ho
  · split at ho
    · rename_i hc
      rw [pr_at_eq] at hc
      split at ho
      · cases ho
      · rename_i hin
        rw [pr_fn_eq, pr_wr_eq] at ho
        cases ho
        exact pr_last hd hc hin k
    · cases ho
  · cases ho
noncomputable def po_zast (nx : Nat) : pr_Op := fun _ lo st h => match st with
  | .int x :: .int i :: .ref k :: st => match pr_at h k with
    | some (.inl (2, n, .inl f)) => if i < 0 ∨ n ≤ i.toNatClampNeg then none else pr_fn i.toNatClampNeg (fun j => pr_wr (.inl (2, n, .inl (upd f j (vp_nar .boolean x)))) h k (fun h => some (nx, lo, st, h)))
    | _ => none
  | _ => none
theorem os_zast (hd : decode mi.2.1 pc = .ok (.bastore, 1)) : pr_oS ms mi pc (po_zast (pc + 1)) := by
  intro d call lo st h pc1 lo1 st1 h1 v h' _ ho k
  unfold po_zast at ho
  split at ho
  · split at ho
    · rename_i hc
      rw [pr_at_eq] at hc
      split at ho
      · cases ho
      · rename_i hin
        rw [pr_fn_eq, pr_wr_eq] at ho
        cases ho
        exact pr_zast hd hc hin k
    · cases ho
  · cases ho
/-- a new array of another kind -/
noncomputable def po_newG (t : Nat) (mk : Nat → vp_A) (nx : Nat) : pr_Op := fun _ lo st h => match st with
  | .int n :: st => if n < 0 ∨ 10000000 < n.toNatClampNeg then none else pr_fn n.toNatClampNeg (fun N => pr_fn (pr_len h) (fun a => pr_ap (.inl (t, mk N)) h (fun h => some (nx, lo, .ref a :: st, h))))
  | _ => none
theorem os_newG {t : Nat} {atype : ArrayType} {mk : Nat → vp_A} (hd : decode mi.2.1 pc = .ok (.newarray atype, 2)) (ht : pr_tys[t]? = some (newarray.typeOf atype)) (hra : ∀ U cA, va_RA U cA (newarray.typeOf atype) = (U.vm.findClass ("[" ++ (newarray.typeOf atype).toString) = some cA)) (ha : ∀ N, (mk N).1 = N) (hca : ∀ N b cA, vp_cell cA (pr_a b (mk N)) = arrV cA N (fun _ => defaultValue (newarray.typeOf atype))) (hw : Cond.arrayClass (newarray.typeOf atype) ∈ pr_G) (hb : componentBytes (newarray.typeOf atype) ≤ 8) : pr_oS ms mi pc (po_newG t mk (pc + 2)) := by
  intro d call lo st h pc1 lo1 st1 h1 v h' _ ho k
  unfold po_newG at ho
  split at ho
  · rename_i n st
    split at ho
    · cases ho
    · rename_i hin
      rw [pr_fn_eq, pr_fn_eq, pr_ap_eq, pr_len_eq] at ho
      cases ho
      have h9 : n.toNatClampNeg ≤ 10000000 := Nat.le_of_not_lt (fun q => hin (Or.inr q))
      refine pr_newG (N := n.toNatClampNeg) hd ht hra (ha _) (hca _) hw (fun q => hin (Or.inl q)) rfl ?_ k
      exact Nat.le_trans (Nat.mul_le_mul h9 hb) (by omega)
  · cases ho
noncomputable def po_mark (i nx : Nat) : pr_Op := fun _ lo st h => some (nx, lo, .retAddr i :: st, h)
theorem os_ldcS {idx i : Nat} {tx : String} (hd : decode mi.2.1 pc = .ok (.ldc idx, 2)) (hq : (mi.1.cls, idx, tx, i) ∈ pz_lits) (hi : i ≠ 50) : pr_oS ms mi pc (po_mark i (pc + 2)) := by
  intro d call lo st h pc1 lo1 st1 h1 v h' _ ho k
  cases ho
  exact pr_ldcS hd hq hi k
theorem os_gsF {idx : Nat} (hd : decode mi.2.1 pc = .ok (.getstatic idx, 3)) (hlink : Cond.fieldLink mi.1.cls idx "jdk/internal/util/Preconditions" "SIOOBE_FORMATTER" "Ljava/util/function/BiFunction;" ∈ pr_G) : pr_oS ms mi pc (po_mark 50 (pc + 3)) := by
  intro d call lo st h pc1 lo1 st1 h1 v h' _ ho k
  cases ho
  exact pr_gsF hd hlink k
theorem os_gsC {idx : Nat} (hd : decode mi.2.1 pc = .ok (.getstatic idx, 3)) (hlink : Cond.fieldLink mi.1.cls idx "java/lang/String" "COMPACT_STRINGS" "Z" ∈ pr_G) : pr_oS ms mi pc (po_push 1 (pc + 3)) := os_push fun d lo st h v h' k => pr_gsC hd hlink k
noncomputable def po_getV (nx : Nat) : pr_Op := fun _ lo st h => match st with
  | .retAddr i :: st => Bool.rec (motive := fun _ => Option pr_N) none (pr_fn (100 + i) (fun j => some (nx, lo, .retAddr j :: st, h))) (Nat.blt i 4)
  | _ => none
theorem os_getV {idx : Nat} (hd : decode mi.2.1 pc = .ok (.getfield idx, 3)) (hlink : Cond.fieldLink mi.1.cls idx "java/lang/String" "value" "[B" ∈ pr_G) : pr_oS ms mi pc (po_getV (pc + 3)) := by
  intro d call lo st h pc1 lo1 st1 h1 v h' _ ho k
  unfold po_getV at ho
  split at ho
  · rename_i i st
    cases hb : Nat.blt i 4 with
    | false => rw [hb] at ho; cases ho
    | true =>
      rw [hb] at ho
      dsimp only at ho
      rw [pr_fn_eq] at ho
      cases ho
      exact pr_getV hd (Nat.le_of_ble_eq_true hb) hlink k
  · cases ho
noncomputable def po_getC (nx : Nat) : pr_Op := fun _ lo st h => match st with
  | .retAddr i :: st => Bool.rec (motive := fun _ => Option pr_N) none (some (nx, lo, .int 0 :: st, h)) (Nat.blt i 4)
  | _ => none
theorem os_getC {idx : Nat} (hd : decode mi.2.1 pc = .ok (.getfield idx, 3)) (hlink : Cond.fieldLink mi.1.cls idx "java/lang/String" "coder" "B" ∈ pr_G) : pr_oS ms mi pc (po_getC (pc + 3)) := by
  intro d call lo st h pc1 lo1 st1 h1 v h' _ ho k
  unfold po_getC at ho
  split at ho
  · rename_i i st
    cases hb : Nat.blt i 4 with
    | false => rw [hb] at ho; cases ho
    | true =>
      rw [hb] at ho
      cases ho
      exact pr_getCo hd (Nat.le_of_ble_eq_true hb) hlink k
  · cases ho
noncomputable def po_alenS (nx : Nat) : pr_Op := fun _ lo st h => match st with
  | .retAddr j :: st => Bool.rec (motive := fun _ => Option pr_N) none (pr_fi (Int32.ofNat (pz_len.getD (j - 100) 0)) (fun x => some (nx, lo, .int x :: st, h))) (Nat.ble 100 j && Nat.blt (j - 100) 4)
  | _ => none
theorem os_alenS (hd : decode mi.2.1 pc = .ok (.arraylength, 1)) : pr_oS ms mi pc (po_alenS (pc + 1)) := by
  intro d call lo st h pc1 lo1 st1 h1 v h' _ ho k
  unfold po_alenS at ho
  split at ho
  · rename_i j st
    cases hb : Nat.ble 100 j && Nat.blt (j - 100) 4 with
    | false => rw [hb] at ho; cases ho
    | true =>
      rw [hb] at ho
      dsimp only at ho
      rw [pr_fi_eq] at ho
      cases ho
      simp only [Bool.and_eq_true] at hb
      have h1 : 100 + (j - 100) = j := by have := Nat.le_of_ble_eq_true hb.1; omega
      have := pr_alenS (d := d + 1) (lo := lo) (st := st) (h := h) (v := v) (h' := h') hd (Nat.le_of_ble_eq_true hb.2) k
      rw [h1] at this
      exact this
  · cases ho
noncomputable def po_baldS (nx : Nat) : pr_Op := fun _ lo st h => match st with
  | .int x :: .retAddr j :: st => Bool.rec (motive := fun _ => Option pr_N) none (if x < 0 ∨ pz_len.getD (j - 100) 0 ≤ x.toNatClampNeg then none else pr_fi ((pz_byt.getD (j - 100) []).getD x.toNatClampNeg 0) (fun x => some (nx, lo, .int x :: st, h))) (Nat.ble 100 j && Nat.blt (j - 100) 4)
  | _ => none
theorem os_baldS (hd : decode mi.2.1 pc = .ok (.baload, 1)) : pr_oS ms mi pc (po_baldS (pc + 1)) := by
  intro d call lo st h pc1 lo1 st1 h1 v h' _ ho k
  unfold po_baldS at ho
  split at ho
  · rename_i x j st
    cases hb : Nat.ble 100 j && Nat.blt (j - 100) 4 with
    | false => rw [hb] at ho; cases ho
    | true =>
      rw [hb] at ho
      dsimp only at ho
      split at ho
      · cases ho
      · rename_i hin
        rw [pr_fi_eq] at ho
        cases ho
        simp only [Bool.and_eq_true] at hb
        have h1 : 100 + (j - 100) = j := by have := Nat.le_of_ble_eq_true hb.1; omega
        have := pr_baldS (d := d + 1) (lo := lo) (st := st) (h := h) (v := v) (h' := h') hd (Nat.le_of_ble_eq_true hb.2) hin k
        rw [h1] at this
        exact this
  · cases ho
noncomputable def po_aloadM (i nx : Nat) : pr_Op := fun _ lo st h => match pr_lg lo i with
  | some (.retAddr x) => Bool.rec (motive := fun _ => Option pr_N) (some (nx, lo, .retAddr x :: st, h)) none (Nat.beq x 50)
  | _ => none
theorem os_aloadM_n {q : Fin 4} (hd : decode mi.2.1 pc = .ok (.aload_n q, 1)) : pr_oS ms mi pc (po_aloadM q.val (pc + 1)) := by
  intro d call lo st h pc1 lo1 st1 h1 v h' _ ho k
  unfold po_aloadM at ho
  split at ho
  · rename_i x hx
    rw [pr_lg_eq] at hx
    cases hb : Nat.beq x 50 with
    | true => rw [hb] at ho; cases ho
    | false =>
      rw [hb] at ho
      cases ho
      exact pr_aloadM_n hd (fun e => by rw [e] at hb; cases hb) hx k
  · cases ho
/-- a call on a text -/
noncomputable def po_ct (k n mx nx : Nat) : pr_Op := fun call lo st h => match pr_pop n [] st with
  | some (as, .retAddr a :: rest) => Bool.rec (motive := fun _ => Option pr_N) none (match call k (.retAddr a :: as) h with
      | some (v1, h1) => some (nx, lo, v1.toList ++ rest, h1)
      | none => none) (Nat.blt a 4 && (pr_sm rest && Nat.ble (lg_sl (.retAddr a :: as)).length mx))
  | _ => none
theorem os_ct {idx k n mx : Nat} {m2 : pr_M} (hd : decode mi.2.1 pc = .ok (.invokevirtual idx, 3)) (hk : ms[k]? = some m2) (hmx : m2.2.2.1 = mx) (hc : pr_cal m2 n) (hl : Cond.methodLink mi.1.cls idx m2.1 ∈ pr_G) (hi : Cond.instanceMethod m2.1 ∈ pr_G) (hse : Cond.selects m2.1.cls m2.1 m2.1 ∈ pr_G) (hS4 : m2.1.cls = "java/lang/String") : pr_oS ms mi pc (po_ct k n mx (pc + 3)) := by
  intro d call lo st h pc1 lo1 st1 h1 v h' hca ho kk
  unfold po_ct at ho
  split at ho
  · rename_i as a rest hp
    obtain ⟨bs, e1, e2, e3⟩ := pr_pop_eq _ _ _ _ _ hp
    rw [List.append_nil] at e1
    subst e1
    subst e3
    cases hb : Nat.blt a 4 && (pr_sm rest && Nat.ble (lg_sl (.retAddr a :: as)).length mx) with
    | false => rw [hb] at ho; cases ho
    | true =>
      rw [hb] at ho
      dsimp only at ho
      simp only [Bool.and_eq_true] at hb
      split at ho
      · rename_i v1 h2 hcall
        cases ho
        obtain ⟨d0, hd0, hM⟩ := hca k m2 _ _ _ _ hk (by rw [hmx]; exact Nat.le_of_ble_eq_true hb.2.2) hcall
        cases hd0
        exact pr_callT hd hc hl hi hse e2 hS4 (Nat.le_of_ble_eq_true hb.1) (Nat.le_of_ble_eq_true hb.2.1) hM kk
      · cases ho
  · cases ho
noncomputable def po_copy (nx : Nat) : pr_Op := fun _ lo st h => match st with
  | .int n :: .int dp :: .ref k1 :: .int sp :: .ref k0 :: st => match pr_at h k0 with
    | some (.inl (0, n0, .inl f)) => match pr_at h k1 with
      | some (.inl (0, n1, .inl g)) => if (sp < 0 ∨ dp < 0 ∨ n < 0) ∨ ¬ (sp.toNatClampNeg + n.toNatClampNeg ≤ n0 ∧ dp.toNatClampNeg + n.toNatClampNeg ≤ n1) then none else Bool.rec (motive := fun _ => Option pr_N) none (pr_fn sp.toNatClampNeg (fun sp => pr_fn dp.toNatClampNeg (fun dp => pr_fn n.toNatClampNeg (fun n => pr_wr (.inl (0, n1, .inl (va_cpy f g sp dp n))) h k1 (fun h => some (nx, lo, st, h)))))) (pr_sm st)
      | _ => none
    | _ => none
  | _ => none
theorem os_copy {idx : Nat} (hd : decode mi.2.1 pc = .ok (.invokestatic idx, 3)) (hl : Cond.methodLink mi.1.cls idx arraycopyName ∈ pr_G) (hna : Cond.native arraycopyName ∈ pr_G) (hst : Cond.static arraycopyName ∈ pr_G) (hini : Cond.initialized "java/lang/System" ∈ pr_G) : pr_oS ms mi pc (po_copy (pc + 3)) := by
  intro d call lo st h pc1 lo1 st1 h1 v h' _ ho k
  unfold po_copy at ho
  split at ho
  · rename_i n dp k1 sp k0 st
    split at ho
    · rename_i n0 f hc0
      rw [pr_at_eq] at hc0
      split at ho
      · rename_i n1 g hc1
        rw [pr_at_eq] at hc1
        split at ho
        · cases ho
        · rename_i hin
          cases hb : pr_sm st with
          | false => rw [hb] at ho; cases ho
          | true =>
            rw [hb] at ho
            dsimp only at ho
            rw [pr_fn_eq, pr_fn_eq, pr_fn_eq, pr_wr_eq] at ho
            cases ho
            have h9 : sp.toNatClampNeg + n.toNatClampNeg ≤ n0 ∧ dp.toNatClampNeg + n.toNatClampNeg ≤ n1 := Classical.byContradiction fun q => hin (Or.inr q)
            exact pr_copy hd hl hna hst hini hc0 hc1 (fun q => hin (Or.inl (Or.inl q))) (fun q => hin (Or.inl (Or.inr (Or.inl q)))) (fun q => hin (Or.inl (Or.inr (Or.inr q)))) h9.1 h9.2 (Nat.le_of_ble_eq_true hb) k
      · cases ho
    · cases ho
  · cases ho
end PRO2
