/-! THE OPS: an instruction as a function, each with its soundness -/
section PRO
variable {ms : List pr_M} {mi : pr_M} {pc : Nat}
noncomputable def po_push (x : Int32) (nx : Nat) : pr_Op := fun _ lo st h => some (nx, lo, .int x :: st, h)
noncomputable def po_null (nx : Nat) : pr_Op := fun _ lo st h => some (nx, lo, .null :: st, h)
noncomputable def po_i2 (f : Int32 → Int32 → Int32) (nx : Nat) : pr_Op := fun _ lo st h => match st with
  | .int y :: .int x :: st => pr_fi (f x y) (fun z => some (nx, lo, .int z :: st, h))
  | _ => none
noncomputable def po_d2 (f : Int32 → Int32 → Int32) (nx : Nat) : pr_Op := fun _ lo st h => match st with
  | .int y :: .int x :: st => if y = 0 then none else pr_fi (f x y) (fun z => some (nx, lo, .int z :: st, h))
  | _ => none
noncomputable def po_i1 (f : Int32 → Int32) (nx : Nat) : pr_Op := fun _ lo st h => match st with
  | .int x :: st => pr_fi (f x) (fun z => some (nx, lo, .int z :: st, h))
  | _ => none
noncomputable def po_goto (tgt : Nat) : pr_Op := fun _ lo st h => some (tgt, lo, st, h)
noncomputable def po_if1 (c : Int32 → Bool) (tgt nx : Nat) : pr_Op := fun _ lo st h => match st with
  | .int x :: st => Bool.rec (motive := fun _ => Option pr_N) (some (nx, lo, st, h)) (some (tgt, lo, st, h)) (c x)
  | _ => none
noncomputable def po_if2 (c : Int32 → Int32 → Bool) (tgt nx : Nat) : pr_Op := fun _ lo st h => match st with
  | .int y :: .int x :: st => Bool.rec (motive := fun _ => Option pr_N) (some (nx, lo, st, h)) (some (tgt, lo, st, h)) (c x y)
  | _ => none
noncomputable def po_iload (i nx : Nat) : pr_Op := fun _ lo st h => match pr_lg lo i with
  | some (.int x) => some (nx, lo, .int x :: st, h)
  | _ => none
noncomputable def po_aload (i nx : Nat) : pr_Op := fun _ lo st h => match pr_lg lo i with
  | some (.ref x) => some (nx, lo, .ref x :: st, h)
  | _ => none
noncomputable def po_istore (i nx : Nat) : pr_Op := fun _ lo st h => match st with
  | .int x :: st => pr_rm i lo (fun l => some (nx, (i, .int x) :: l, st, h))
  | _ => none
noncomputable def po_astore (i nx : Nat) : pr_Op := fun _ lo st h => match st with
  | .ref x :: st => pr_rm i lo (fun l => some (nx, (i, .ref x) :: l, st, h))
  | _ => none
noncomputable def po_iinc (i : Nat) (n : Int32) (nx : Nat) : pr_Op := fun _ lo st h => match pr_lg lo i with
  | some (.int x) => pr_fi (x + n) (fun z => pr_rm i lo (fun l => some (nx, (i, .int z) :: l, st, h)))
  | _ => none
noncomputable def po_dup (nx : Nat) : pr_Op := fun _ lo st h => match st with
  | .int x :: st => some (nx, lo, .int x :: .int x :: st, h)
  | .ref x :: st => some (nx, lo, .ref x :: .ref x :: st, h)
  | _ => none
noncomputable def po_pop (nx : Nat) : pr_Op := fun _ lo st h => match st with
  | .int _ :: st => some (nx, lo, st, h)
  | .ref _ :: st => some (nx, lo, st, h)
  | _ => none
noncomputable def po_dup_x1 (nx : Nat) : pr_Op := fun _ lo st h => match st with
  | .int x :: .ref y :: st => some (nx, lo, .int x :: .ref y :: .int x :: st, h)
  | .ref x :: .ref y :: st => some (nx, lo, .ref x :: .ref y :: .ref x :: st, h)
  | .int x :: .int y :: st => some (nx, lo, .int x :: .int y :: .int x :: st, h)
  | _ => none
noncomputable def po_dup2 (nx : Nat) : pr_Op := fun _ lo st h => match st with
  | .int x :: .ref y :: st => some (nx, lo, .int x :: .ref y :: .int x :: .ref y :: st, h)
  | _ => none
noncomputable def po_dup_x2 (nx : Nat) : pr_Op := fun _ lo st h => match st with
  | .int x :: .int y :: .ref z :: st => some (nx, lo, .int x :: .int y :: .ref z :: .int x :: st, h)
  | _ => none
theorem os_push {n : Nat} {x : Int32} (hr : ∀ (d : Nat) (lo : pr_L) (st : List Value) (h : pr_H) (v : Option Value) (h' : pr_H), pr_R (d + 1) mi n lo (.int x :: st) h v h' → pr_R (d + 1) mi pc lo st h v h') : pr_oS ms mi pc (po_push x n) := by
  intro d call lo st h pc1 lo1 st1 h1 v h' _ ho k
  cases ho
  exact hr _ _ _ _ _ _ k
theorem os_iconst {n : Int} {x : Int32} (hd : decode mi.2.1 pc = .ok (.iconst n, 1)) (hx : Int32.ofInt n = x) : pr_oS ms mi pc (po_push x (pc + 1)) := os_push fun d lo st h v h' k => pr_iconst hd (by rw [hx]; exact k)
theorem os_bipush {n : Int} {x : Int32} (hd : decode mi.2.1 pc = .ok (.bipush n, 2)) (hx : (Int8.ofInt n).toInt32 = x) : pr_oS ms mi pc (po_push x (pc + 2)) := os_push fun d lo st h v h' k => pr_bipush hd (by rw [hx]; exact k)
theorem os_sipush {n : Int} {x : Int32} (hd : decode mi.2.1 pc = .ok (.sipush n, 3)) (hx : (Int16.ofInt n).toInt32 = x) : pr_oS ms mi pc (po_push x (pc + 3)) := os_push fun d lo st h v h' k => pr_sipush hd (by rw [hx]; exact k)
theorem os_ldc {idx : Nat} {x : Int32} (hd : decode mi.2.1 pc = .ok (.ldc idx, 2)) (hw : Cond.constant mi.1.cls idx x ∈ pr_G) : pr_oS ms mi pc (po_push x (pc + 2)) := os_push fun d lo st h v h' k => pr_ldc hd hw k
theorem os_ldcw {idx : Nat} {x : Int32} (hd : decode mi.2.1 pc = .ok (.ldc_w idx, 3)) (hw : Cond.constant mi.1.cls idx x ∈ pr_G) : pr_oS ms mi pc (po_push x (pc + 3)) := os_push fun d lo st h v h' k => pr_ldcw hd hw k
theorem os_null (hd : decode mi.2.1 pc = .ok (.aconst_null, 1)) : pr_oS ms mi pc (po_null (pc + 1)) := by
  intro d call lo st h pc1 lo1 st1 h1 v h' _ ho k
  cases ho
  exact pr_null hd k
theorem os_i2 {f : Int32 → Int32 → Int32} {n : Nat} (hr : ∀ (d : Nat) (lo : pr_L) (st : List Value) (h : pr_H) (v : Option Value) (h' : pr_H) (x y : Int32), pr_R (d + 1) mi n lo (.int (f x y) :: st) h v h' → pr_R (d + 1) mi pc lo (.int y :: .int x :: st) h v h') : pr_oS ms mi pc (po_i2 f n) := by
  intro d call lo st h pc1 lo1 st1 h1 v h' _ ho k
  unfold po_i2 at ho
  split at ho
  · rw [pr_fi_eq] at ho
    cases ho
    exact hr _ _ _ _ _ _ _ _ k
  · cases ho
theorem os_iadd (hd : decode mi.2.1 pc = .ok (.iadd, 1)) : pr_oS ms mi pc (po_i2 (fun x y => x + y) (pc + 1)) := os_i2 fun d lo st h v h' x y k => pr_iadd hd k
theorem os_isub (hd : decode mi.2.1 pc = .ok (.isub, 1)) : pr_oS ms mi pc (po_i2 (fun x y => x - y) (pc + 1)) := os_i2 fun d lo st h v h' x y k => pr_isub hd k
theorem os_imul (hd : decode mi.2.1 pc = .ok (.imul, 1)) : pr_oS ms mi pc (po_i2 (fun x y => x * y) (pc + 1)) := os_i2 fun d lo st h v h' x y k => pr_imul hd k
theorem os_iand (hd : decode mi.2.1 pc = .ok (.iand, 1)) : pr_oS ms mi pc (po_i2 (fun x y => x &&& y) (pc + 1)) := os_i2 fun d lo st h v h' x y k => pr_iand hd k
theorem os_ior (hd : decode mi.2.1 pc = .ok (.ior, 1)) : pr_oS ms mi pc (po_i2 (fun x y => x ||| y) (pc + 1)) := os_i2 fun d lo st h v h' x y k => pr_ior hd k
theorem os_ixor (hd : decode mi.2.1 pc = .ok (.ixor, 1)) : pr_oS ms mi pc (po_i2 (fun x y => x ^^^ y) (pc + 1)) := os_i2 fun d lo st h v h' x y k => pr_ixor hd k
theorem os_ishl (hd : decode mi.2.1 pc = .ok (.ishl, 1)) : pr_oS ms mi pc (po_i2 (fun x y => x <<< (y &&& 31)) (pc + 1)) := os_i2 fun d lo st h v h' x y k => pr_ishl hd k
theorem os_ishr (hd : decode mi.2.1 pc = .ok (.ishr, 1)) : pr_oS ms mi pc (po_i2 (fun x y => x >>> (y &&& 31)) (pc + 1)) := os_i2 fun d lo st h v h' x y k => pr_ishr hd k
theorem os_iushr (hd : decode mi.2.1 pc = .ok (.iushr, 1)) : pr_oS ms mi pc (po_i2 (fun x y => (x.toUInt32 >>> (y.toUInt32 &&& Int32.toUInt32 31)).toInt32) (pc + 1)) := os_i2 fun d lo st h v h' x y k => pr_iushr hd k
theorem os_d2 {f : Int32 → Int32 → Int32} {n : Nat} (hr : ∀ (d : Nat) (lo : pr_L) (st : List Value) (h : pr_H) (v : Option Value) (h' : pr_H) (x y : Int32), ¬ y = 0 → pr_R (d + 1) mi n lo (.int (f x y) :: st) h v h' → pr_R (d + 1) mi pc lo (.int y :: .int x :: st) h v h') : pr_oS ms mi pc (po_d2 f n) := by
  intro d call lo st h pc1 lo1 st1 h1 v h' _ ho k
  unfold po_d2 at ho
  split at ho
  · rename_i y x st
    by_cases hy : y = 0
    · rw [if_pos hy] at ho; cases ho
    · rw [if_neg hy, pr_fi_eq] at ho
      cases ho
      exact hr _ _ _ _ _ _ _ _ hy k
  · cases ho
theorem os_idiv (hd : decode mi.2.1 pc = .ok (.idiv, 1)) : pr_oS ms mi pc (po_d2 (fun x y => x / y) (pc + 1)) := os_d2 fun d lo st h v h' x y hy k => pr_idiv hd hy k
theorem os_irem (hd : decode mi.2.1 pc = .ok (.irem, 1)) : pr_oS ms mi pc (po_d2 (fun x y => x - x / y * y) (pc + 1)) := os_d2 fun d lo st h v h' x y hy k => pr_irem hd hy k
theorem os_ineg (hd : decode mi.2.1 pc = .ok (.ineg, 1)) : pr_oS ms mi pc (po_i1 (fun x => -x) (pc + 1)) := by
  intro d call lo st h pc1 lo1 st1 h1 v h' _ ho k
  unfold po_i1 at ho
  split at ho
  · rw [pr_fi_eq] at ho
    cases ho
    exact pr_ineg hd k
  · cases ho
theorem os_goto {off : Int} {tgt : Nat} (hd : decode mi.2.1 pc = .ok (.goto off, 3)) (ht : (pc : Int) + off = (tgt : Int)) : pr_oS ms mi pc (po_goto tgt) := by
  intro d call lo st h pc1 lo1 st1 h1 v h' _ ho k
  cases ho
  exact pr_goto hd ht k
theorem os_if1 {c : Int32 → Bool} {tgt n : Nat} (hr : ∀ (d : Nat) (lo : pr_L) (st : List Value) (h : pr_H) (v : Option Value) (h' : pr_H) (x : Int32), (c x = true → pr_R (d + 1) mi tgt lo st h v h') → (c x = false → pr_R (d + 1) mi n lo st h v h') → pr_R (d + 1) mi pc lo (.int x :: st) h v h') : pr_oS ms mi pc (po_if1 c tgt n) := by
  intro d call lo st h pc1 lo1 st1 h1 v h' _ ho k
  unfold po_if1 at ho
  split at ho
  · rename_i x st
    cases hc : c x with
    | true => rw [hc] at ho; cases ho; exact hr _ _ _ _ _ _ _ (fun _ => k) (fun h => by rw [hc] at h; cases h)
    | false => rw [hc] at ho; cases ho; exact hr _ _ _ _ _ _ _ (fun h => by rw [hc] at h; cases h) (fun _ => k)
  · cases ho
theorem os_if2 {c : Int32 → Int32 → Bool} {tgt n : Nat} (hr : ∀ (d : Nat) (lo : pr_L) (st : List Value) (h : pr_H) (v : Option Value) (h' : pr_H) (x y : Int32), (c x y = true → pr_R (d + 1) mi tgt lo st h v h') → (c x y = false → pr_R (d + 1) mi n lo st h v h') → pr_R (d + 1) mi pc lo (.int y :: .int x :: st) h v h') : pr_oS ms mi pc (po_if2 c tgt n) := by
  intro d call lo st h pc1 lo1 st1 h1 v h' _ ho k
  unfold po_if2 at ho
  split at ho
  · rename_i y x st
    cases hc : c x y with
    | true => rw [hc] at ho; cases ho; exact hr _ _ _ _ _ _ _ _ (fun _ => k) (fun h => by rw [hc] at h; cases h)
    | false => rw [hc] at ho; cases ho; exact hr _ _ _ _ _ _ _ _ (fun h => by rw [hc] at h; cases h) (fun _ => k)
  · cases ho
theorem os_if_eq {off : Int} {tgt : Nat} (hd : decode mi.2.1 pc = .ok (.ifCond .eq off, 3)) (ht : (pc : Int) + off = (tgt : Int)) : pr_oS ms mi pc (po_if1 (fun x => decide (x = 0)) tgt (pc + 3)) := os_if1 fun d lo st h v h' x kt kf => pr_if_eq hd ht (fun q => kt (decide_eq_true q)) (fun q => kf (decide_eq_false q))
theorem os_icmp_eq {off : Int} {tgt : Nat} (hd : decode mi.2.1 pc = .ok (.if_icmp .eq off, 3)) (ht : (pc : Int) + off = (tgt : Int)) : pr_oS ms mi pc (po_if2 (fun x y => decide (x = y)) tgt (pc + 3)) := os_if2 fun d lo st h v h' x y kt kf => pr_icmp_eq hd ht (fun q => kt (decide_eq_true q)) (fun q => kf (decide_eq_false q))
theorem os_if_lt {off : Int} {tgt : Nat} (hd : decode mi.2.1 pc = .ok (.ifCond .lt off, 3)) (ht : (pc : Int) + off = (tgt : Int)) : pr_oS ms mi pc (po_if1 (fun x => decide (x < 0)) tgt (pc + 3)) := os_if1 fun d lo st h v h' x kt kf => pr_if_lt hd ht (fun q => kt (decide_eq_true q)) (fun q => kf (decide_eq_false q))
theorem os_icmp_lt {off : Int} {tgt : Nat} (hd : decode mi.2.1 pc = .ok (.if_icmp .lt off, 3)) (ht : (pc : Int) + off = (tgt : Int)) : pr_oS ms mi pc (po_if2 (fun x y => decide (x < y)) tgt (pc + 3)) := os_if2 fun d lo st h v h' x y kt kf => pr_icmp_lt hd ht (fun q => kt (decide_eq_true q)) (fun q => kf (decide_eq_false q))
theorem os_if_ge {off : Int} {tgt : Nat} (hd : decode mi.2.1 pc = .ok (.ifCond .ge off, 3)) (ht : (pc : Int) + off = (tgt : Int)) : pr_oS ms mi pc (po_if1 (fun x => decide (0 ≤ x)) tgt (pc + 3)) := os_if1 fun d lo st h v h' x kt kf => pr_if_ge hd ht (fun q => kt (decide_eq_true q)) (fun q => kf (decide_eq_false q))
theorem os_icmp_ge {off : Int} {tgt : Nat} (hd : decode mi.2.1 pc = .ok (.if_icmp .ge off, 3)) (ht : (pc : Int) + off = (tgt : Int)) : pr_oS ms mi pc (po_if2 (fun x y => decide (y ≤ x)) tgt (pc + 3)) := os_if2 fun d lo st h v h' x y kt kf => pr_icmp_ge hd ht (fun q => kt (decide_eq_true q)) (fun q => kf (decide_eq_false q))
theorem os_if_gt {off : Int} {tgt : Nat} (hd : decode mi.2.1 pc = .ok (.ifCond .gt off, 3)) (ht : (pc : Int) + off = (tgt : Int)) : pr_oS ms mi pc (po_if1 (fun x => decide (0 < x)) tgt (pc + 3)) := os_if1 fun d lo st h v h' x kt kf => pr_if_gt hd ht (fun q => kt (decide_eq_true q)) (fun q => kf (decide_eq_false q))
theorem os_icmp_gt {off : Int} {tgt : Nat} (hd : decode mi.2.1 pc = .ok (.if_icmp .gt off, 3)) (ht : (pc : Int) + off = (tgt : Int)) : pr_oS ms mi pc (po_if2 (fun x y => decide (y < x)) tgt (pc + 3)) := os_if2 fun d lo st h v h' x y kt kf => pr_icmp_gt hd ht (fun q => kt (decide_eq_true q)) (fun q => kf (decide_eq_false q))
theorem os_if_le {off : Int} {tgt : Nat} (hd : decode mi.2.1 pc = .ok (.ifCond .le off, 3)) (ht : (pc : Int) + off = (tgt : Int)) : pr_oS ms mi pc (po_if1 (fun x => decide (x ≤ 0)) tgt (pc + 3)) := os_if1 fun d lo st h v h' x kt kf => pr_if_le hd ht (fun q => kt (decide_eq_true q)) (fun q => kf (decide_eq_false q))
theorem os_icmp_le {off : Int} {tgt : Nat} (hd : decode mi.2.1 pc = .ok (.if_icmp .le off, 3)) (ht : (pc : Int) + off = (tgt : Int)) : pr_oS ms mi pc (po_if2 (fun x y => decide (x ≤ y)) tgt (pc + 3)) := os_if2 fun d lo st h v h' x y kt kf => pr_icmp_le hd ht (fun q => kt (decide_eq_true q)) (fun q => kf (decide_eq_false q))
theorem os_if_ne {off : Int} {tgt : Nat} (hd : decode mi.2.1 pc = .ok (.ifCond .ne off, 3)) (ht : (pc : Int) + off = (tgt : Int)) : pr_oS ms mi pc (po_if1 (fun x => !decide (x = 0)) tgt (pc + 3)) := os_if1 fun d lo st h v h' x kt kf => pr_if_ne hd ht (fun q => kt (by rw [decide_eq_false q]; rfl)) (fun q => kf (by rw [decide_eq_true q]; rfl))
theorem os_icmp_ne {off : Int} {tgt : Nat} (hd : decode mi.2.1 pc = .ok (.if_icmp .ne off, 3)) (ht : (pc : Int) + off = (tgt : Int)) : pr_oS ms mi pc (po_if2 (fun x y => !decide (x = y)) tgt (pc + 3)) := os_if2 fun d lo st h v h' x y kt kf => pr_icmp_ne hd ht (fun q => kt (by rw [decide_eq_false q]; rfl)) (fun q => kf (by rw [decide_eq_true q]; rfl))
theorem os_iload_n {q : Fin 4} (hd : decode mi.2.1 pc = .ok (.iload_n q, 1)) : pr_oS ms mi pc (po_iload q.val (pc + 1)) := by
  intro d call lo st h pc1 lo1 st1 h1 v h' _ ho k
  unfold po_iload at ho
  split at ho
  · rename_i x hx
    rw [pr_lg_eq] at hx
    cases ho
    exact pr_iload_n hd hx k
  · cases ho
theorem os_iload {i : Nat} (hd : decode mi.2.1 pc = .ok (.iload i, 2)) : pr_oS ms mi pc (po_iload i (pc + 2)) := by
  intro d call lo st h pc1 lo1 st1 h1 v h' _ ho k
  unfold po_iload at ho
  split at ho
  · rename_i x hx
    rw [pr_lg_eq] at hx
    cases ho
    exact pr_iload hd hx k
  · cases ho
theorem os_aload_n {q : Fin 4} (hd : decode mi.2.1 pc = .ok (.aload_n q, 1)) : pr_oS ms mi pc (po_aload q.val (pc + 1)) := by
  intro d call lo st h pc1 lo1 st1 h1 v h' _ ho k
  unfold po_aload at ho
  split at ho
  · rename_i x hx
    rw [pr_lg_eq] at hx
    cases ho
    exact pr_aload_n hd hx k
  · cases ho
theorem os_aload {i : Nat} (hd : decode mi.2.1 pc = .ok (.aload i, 2)) : pr_oS ms mi pc (po_aload i (pc + 2)) := by
  intro d call lo st h pc1 lo1 st1 h1 v h' _ ho k
  unfold po_aload at ho
  split at ho
  · rename_i x hx
    rw [pr_lg_eq] at hx
    cases ho
    exact pr_aload hd hx k
  · cases ho
theorem os_istore_n {q : Fin 4} (hd : decode mi.2.1 pc = .ok (.istore_n q, 1)) (hn : q.val < mi.2.2.1) : pr_oS ms mi pc (po_istore q.val (pc + 1)) := by
  intro d call lo st h pc1 lo1 st1 h1 v h' _ ho k
  unfold po_istore at ho
  split at ho
  · rename_i x st
    rw [pr_rm_put q.val (.int x) lo (fun l => some (pc + 1, l, st, h))] at ho
    cases ho
    exact pr_istore_n hd hn k
  · cases ho
theorem os_istore {i : Nat} (hd : decode mi.2.1 pc = .ok (.istore i, 2)) (hn : i < mi.2.2.1) : pr_oS ms mi pc (po_istore i (pc + 2)) := by
  intro d call lo st h pc1 lo1 st1 h1 v h' _ ho k
  unfold po_istore at ho
  split at ho
  · rename_i x st
    rw [pr_rm_put i (.int x) lo (fun l => some (pc + 2, l, st, h))] at ho
    cases ho
    exact pr_istore hd hn k
  · cases ho
theorem os_astore_n {q : Fin 4} (hd : decode mi.2.1 pc = .ok (.astore_n q, 1)) (hn : q.val < mi.2.2.1) : pr_oS ms mi pc (po_astore q.val (pc + 1)) := by
  intro d call lo st h pc1 lo1 st1 h1 v h' _ ho k
  unfold po_astore at ho
  split at ho
  · rename_i x st
    rw [pr_rm_put q.val (.ref x) lo (fun l => some (pc + 1, l, st, h))] at ho
    cases ho
    exact pr_astore_n hd hn k
  · cases ho
theorem os_astore {i : Nat} (hd : decode mi.2.1 pc = .ok (.astore i, 2)) (hn : i < mi.2.2.1) : pr_oS ms mi pc (po_astore i (pc + 2)) := by
  intro d call lo st h pc1 lo1 st1 h1 v h' _ ho k
  unfold po_astore at ho
  split at ho
  · rename_i x st
    rw [pr_rm_put i (.ref x) lo (fun l => some (pc + 2, l, st, h))] at ho
    cases ho
    exact pr_astore hd hn k
  · cases ho
theorem os_iinc {i : Nat} {n : Int} {w : Int32} (hd : decode mi.2.1 pc = .ok (.iinc i n, 3)) (hw : Int32.ofInt n = w) (hn : i < mi.2.2.1) : pr_oS ms mi pc (po_iinc i w (pc + 3)) := by
  intro d call lo st h pc1 lo1 st1 h1 v h' _ ho k
  unfold po_iinc at ho
  split at ho
  · rename_i x hx
    rw [pr_lg_eq] at hx
    rw [pr_fi_eq, pr_rm_put i (.int (x + w)) lo (fun l => some (pc + 3, l, st, h))] at ho
    cases ho
    exact pr_iinc hd hx hn (by rw [hw]; exact k)
  · cases ho
theorem os_dup (hd : decode mi.2.1 pc = .ok (.dup, 1)) : pr_oS ms mi pc (po_dup (pc + 1)) := by
  intro d call lo st h pc1 lo1 st1 h1 v h' _ ho k
  unfold po_dup at ho
  split at ho
  · cases ho; exact pr_dup hd rfl k
  · cases ho; exact pr_dup hd rfl k
  · cases ho
theorem os_pop (hd : decode mi.2.1 pc = .ok (.pop, 1)) : pr_oS ms mi pc (po_pop (pc + 1)) := by
  intro d call lo st h pc1 lo1 st1 h1 v h' _ ho k
  unfold po_pop at ho
  split at ho
  · cases ho; exact pr_pop1 hd rfl k
  · cases ho; exact pr_pop1 hd rfl k
  · cases ho
theorem os_dup_x1 (hd : decode mi.2.1 pc = .ok (.dup_x1, 1)) : pr_oS ms mi pc (po_dup_x1 (pc + 1)) := by
  intro d call lo st h pc1 lo1 st1 h1 v h' _ ho k
  unfold po_dup_x1 at ho
  split at ho
  · cases ho; exact pr_dup_x1 hd rfl rfl k
  · cases ho; exact pr_dup_x1 hd rfl rfl k
  · cases ho; exact pr_dup_x1 hd rfl rfl k
  · cases ho
theorem os_dup2 (hd : decode mi.2.1 pc = .ok (.dup2, 1)) : pr_oS ms mi pc (po_dup2 (pc + 1)) := by
  intro d call lo st h pc1 lo1 st1 h1 v h' _ ho k
  unfold po_dup2 at ho
  split at ho
  · cases ho; exact pr_dup2 hd rfl rfl k
  · cases ho
theorem os_dup_x2 (hd : decode mi.2.1 pc = .ok (.dup_x2, 1)) : pr_oS ms mi pc (po_dup_x2 (pc + 1)) := by
  intro d call lo st h pc1 lo1 st1 h1 v h' _ ho k
  unfold po_dup_x2 at ho
  split at ho
  · cases ho; exact pr_dup_x2 hd rfl rfl rfl k
  · cases ho
/-! returns -/
noncomputable def re_i : pr_Re := fun st h => match st with
  | [.int x] => some (some (.int x), h)
  | _ => none
noncomputable def re_z : pr_Re := fun st h => match st with
  | [.int x] => if x = 0 then some (some (.int 0), h) else if x = 1 then some (some (.int 1), h) else none
  | _ => none
noncomputable def re_v : pr_Re := fun st h => match st with
  | [] => some (none, h)
  | _ => none
noncomputable def re_a : pr_Re := fun st h => match st with
  | [.ref x] => some (some (.ref x), h)
  | _ => none
theorem rs_i (hd : decode mi.2.1 pc = .ok (.ireturn, 1)) (hr : mi.2.2.2 = some .int) : pr_rS mi pc re_i := by
  intro d lo st h v h' ho
  unfold re_i at ho
  split at ho
  · cases ho; exact pr_ireturn hd hr
  · cases ho
theorem rs_z (hd : decode mi.2.1 pc = .ok (.ireturn, 1)) (hr : mi.2.2.2 = some .boolean) : pr_rS mi pc re_z := by
  intro d lo st h v h' ho
  unfold re_z at ho
  split at ho
  · rename_i x
    by_cases h0 : x = 0
    · rw [if_pos h0] at ho; cases ho; subst h0; exact pr_zreturn hd hr rfl
    · rw [if_neg h0] at ho
      by_cases h1 : x = 1
      · rw [if_pos h1] at ho; cases ho; subst h1; exact pr_zreturn hd hr rfl
      · rw [if_neg h1] at ho; cases ho
  · cases ho
theorem rs_v (hd : decode mi.2.1 pc = .ok (.return_, 1)) (hr : mi.2.2.2 = none) : pr_rS mi pc re_v := by
  intro d lo st h v h' ho
  unfold re_v at ho
  split at ho
  · cases ho; exact pr_return hd hr
  · cases ho
theorem rs_a {rt : FieldType} (hd : decode mi.2.1 pc = .ok (.areturn, 1)) (hr : mi.2.2.2 = some rt) (hrt : (∃ n, rt = .object n) ∨ ∃ t, rt = .array t) : pr_rS mi pc re_a := by
  intro d lo st h v h' ho
  unfold re_a at ho
  split at ho
  · cases ho; exact pr_areturn hd hr hrt
  · cases ho
/-! the heap -/
noncomputable def po_get (ci kf nx : Nat) : pr_Op := fun _ lo st h => match st with
  | .ref k :: st => match pr_at h k with
    | some (.inr (c, fs)) => Bool.rec (motive := fun _ => Option pr_N) none (match pr_at fs kf with
      | some x => some (nx, lo, x :: st, h)
      | none => none) (Nat.beq c ci)
    | _ => none
  | _ => none
theorem os_get_g {ci kf n : Nat} (hr : ∀ (d : Nat) (lo : pr_L) (st : List Value) (h : pr_H) (v : Option Value) (h' : pr_H) (k : Nat) (fs : List Value) (x : Value), h[k]? = some (.inr (ci, fs)) → fs[kf]? = some x → pr_R (d + 1) mi n lo (x :: st) h v h' → pr_R (d + 1) mi pc lo (.ref k :: st) h v h') : pr_oS ms mi pc (po_get ci kf n) := by
  intro d call lo st h pc1 lo1 st1 h1 v h' _ ho k
  unfold po_get at ho
  split at ho
  · rename_i a st
    split at ho
    · rename_i c fs hc
      rw [pr_at_eq] at hc
      cases hb : Nat.beq c ci with
      | false => rw [hb] at ho; cases ho
      | true =>
        rw [hb] at ho
        have := Nat.eq_of_beq_eq_true hb
        subst this
        dsimp only at ho
        split at ho
        · rename_i x hx
          rw [pr_at_eq] at hx
          cases ho
          exact hr _ _ _ _ _ _ _ _ _ hc hx k
        · cases ho
    · cases ho
  · cases ho
theorem os_get {idx ci kf N : Nat} {C : String} {T : u_T} {ty : Nat → FieldType} (hd : decode mi.2.1 pc = .ok (.getfield idx, 3)) (hC : pr_cf ci C T N ty) (hk : kf < N) (hlink : Cond.fieldLink mi.1.cls idx (T kf).1 (T kf).2.1 (T kf).2.2.1 ∈ pr_G) : pr_oS ms mi pc (po_get ci kf (pc + 3)) :=
  os_get_g fun d lo st h v h' k fs x ho hv kk => pr_getf hd hC hk hlink ho hv kk
theorem os_getN {idx ci kf N : Nat} {C host : String} {T : u_T} {ty : Nat → FieldType} (hd : decode mi.2.1 pc = .ok (.getfield idx, 3)) (hC : pr_cf ci C T N ty) (hk : kf < N) (hlink : (mi.1.cls, idx, (T kf).1, (T kf).2.1, (T kf).2.2.1, host) ∈ pz_nf) : pr_oS ms mi pc (po_get ci kf (pc + 3)) :=
  os_get_g fun d lo st h v h' k fs x ho hv kk => pr_getN hd hC hk hlink ho hv kk
/-- a store of an int (b: of a boolean: 0 or 1 alone) -/
noncomputable def po_puti (ci kf nx : Nat) : pr_Op := fun _ lo st h => match st with
  | .int x :: .ref k :: st => match pr_at h k with
    | some (.inr (c, fs)) => Bool.rec (motive := fun _ => Option pr_N) none (Bool.rec (motive := fun _ => Option pr_N) none (pr_wr (.int x) fs kf (fun fs => pr_wr (.inr (ci, fs)) h k (fun h => some (nx, lo, st, h)))) (Nat.blt kf fs.length)) (Nat.beq c ci)
    | _ => none
  | _ => none
noncomputable def po_putz (ci kf nx : Nat) : pr_Op := fun q lo st h => match st with
  | .int x :: .ref k :: st => if x = 0 then po_puti ci kf nx q lo (.int 0 :: .ref k :: st) h else if x = 1 then po_puti ci kf nx q lo (.int 1 :: .ref k :: st) h else none
  | _ => none
noncomputable def po_putr (ci kf nx : Nat) : pr_Op := fun _ lo st h => match st with
  | .ref x :: .ref k :: st => match pr_at h k with
    | some (.inr (c, fs)) => Bool.rec (motive := fun _ => Option pr_N) none (Bool.rec (motive := fun _ => Option pr_N) none (pr_wr (.ref x) fs kf (fun fs => pr_wr (.inr (ci, fs)) h k (fun h => some (nx, lo, st, h)))) (Nat.blt kf fs.length)) (Nat.beq c ci)
    | _ => none
  | _ => none
theorem os_puti_g {ci kf n : Nat} {x : Int32} (hr : ∀ (d : Nat) (lo : pr_L) (st : List Value) (h : pr_H) (v : Option Value) (h' : pr_H) (k : Nat) (fs : List Value), h[k]? = some (.inr (ci, fs)) → kf < fs.length → pr_R (d + 1) mi n lo st (h.set k (.inr (ci, fs.set kf (.int x)))) v h' → pr_R (d + 1) mi pc lo (.int x :: .ref k :: st) h v h')
    {d : Nat} {call : pr_Ca} {lo : pr_L} {a : Nat} {st : List Value} {h : pr_H} {pc1 : Nat} {lo1 : pr_L} {st1 : List Value} {h1 : pr_H} {v : Option Value} {h' : pr_H} (ho : po_puti ci kf n call lo (.int x :: .ref a :: st) h = some (pc1, lo1, st1, h1)) (k : pr_R (d + 1) mi pc1 lo1 st1 h1 v h') : pr_R (d + 1) mi pc lo (.int x :: .ref a :: st) h v h' := by
  unfold po_puti at ho
  dsimp only at ho
  split at ho
  · rename_i c fs hc
    rw [pr_at_eq] at hc
    cases hb : Nat.beq c ci with
    | false => rw [hb] at ho; cases ho
    | true =>
      rw [hb] at ho
      have := Nat.eq_of_beq_eq_true hb
      subst this
      dsimp only at ho
      cases hl : Nat.blt kf fs.length with
      | false => rw [hl] at ho; cases ho
      | true =>
        rw [hl] at ho
        dsimp only at ho
        rw [pr_wr_eq, pr_wr_eq] at ho
        cases ho
        exact hr _ _ _ _ _ _ _ _ hc (Nat.le_of_ble_eq_true hl) k
  · cases ho
theorem os_putr_g {ci kf n : Nat} (hr : ∀ (d : Nat) (lo : pr_L) (st : List Value) (h : pr_H) (v : Option Value) (h' : pr_H) (k : Nat) (fs : List Value) (x : Nat), h[k]? = some (.inr (ci, fs)) → kf < fs.length → pr_R (d + 1) mi n lo st (h.set k (.inr (ci, fs.set kf (.ref x)))) v h' → pr_R (d + 1) mi pc lo (.ref x :: .ref k :: st) h v h') : pr_oS ms mi pc (po_putr ci kf n) := by
  intro d call lo st h pc1 lo1 st1 h1 v h' _ ho k
  unfold po_putr at ho
  split at ho
  · rename_i x a st
    split at ho
    · rename_i c fs hc
      rw [pr_at_eq] at hc
      cases hb : Nat.beq c ci with
      | false => rw [hb] at ho; cases ho
      | true =>
        rw [hb] at ho
        have := Nat.eq_of_beq_eq_true hb
        subst this
        dsimp only at ho
        cases hl : Nat.blt kf fs.length with
        | false => rw [hl] at ho; cases ho
        | true =>
          rw [hl] at ho
          dsimp only at ho
          rw [pr_wr_eq, pr_wr_eq] at ho
          cases ho
          exact hr _ _ _ _ _ _ _ _ _ hc (Nat.le_of_ble_eq_true hl) k
    · cases ho
  · cases ho
theorem os_puti {idx ci kf N : Nat} {C : String} {T : u_T} {ty : Nat → FieldType} (hd : decode mi.2.1 pc = .ok (.putfield idx, 3)) (hC : pr_cf ci C T N ty) (hk : kf < N) (hlink : Cond.fieldLink mi.1.cls idx (T kf).1 (T kf).2.1 (T kf).2.2.1 ∈ pr_G) (hfin : (T kf).2.2.2 = false) (hty : ty kf = .int) : pr_oS ms mi pc (po_puti ci kf (pc + 3)) := by
  intro d call lo st h pc1 lo1 st1 h1 v h' _ ho k
  match st, ho with
  | .int x :: .ref a :: st, ho => exact os_puti_g (fun d lo st h v h' k fs ho hl kk => pr_putf hd hC hk hlink hfin ho hl (fun b => by rw [hty]; exact ⟨rfl, rfl⟩) kk) ho k
theorem os_putz {idx ci kf N : Nat} {C : String} {T : u_T} {ty : Nat → FieldType} (hd : decode mi.2.1 pc = .ok (.putfield idx, 3)) (hC : pr_cf ci C T N ty) (hk : kf < N) (hlink : Cond.fieldLink mi.1.cls idx (T kf).1 (T kf).2.1 (T kf).2.2.1 ∈ pr_G) (hfin : (T kf).2.2.2 = false) (hty : ty kf = .boolean) : pr_oS ms mi pc (po_putz ci kf (pc + 3)) := by
  intro d call lo st h pc1 lo1 st1 h1 v h' _ ho k
  unfold po_putz at ho
  split at ho
  · rename_i x a st
    by_cases h0 : x = 0
    · rw [if_pos h0] at ho
      subst h0
      exact os_puti_g (fun d lo st h v h' k fs ho hl kk => pr_putf hd hC hk hlink hfin ho hl (fun b => by rw [hty]; exact ⟨rfl, rfl⟩) kk) ho k
    · rw [if_neg h0] at ho
      by_cases h1 : x = 1
      · rw [if_pos h1] at ho
        subst h1
        exact os_puti_g (fun d lo st h v h' k fs ho hl kk => pr_putf hd hC hk hlink hfin ho hl (fun b => by rw [hty]; exact ⟨rfl, rfl⟩) kk) ho k
      · rw [if_neg h1] at ho; cases ho
  · cases ho
theorem os_putr {idx ci kf N : Nat} {C : String} {T : u_T} {ty : Nat → FieldType} (hd : decode mi.2.1 pc = .ok (.putfield idx, 3)) (hC : pr_cf ci C T N ty) (hk : kf < N) (hlink : Cond.fieldLink mi.1.cls idx (T kf).1 (T kf).2.1 (T kf).2.2.1 ∈ pr_G) (hfin : (T kf).2.2.2 = false) (hty : (∃ n, ty kf = .object n) ∨ ∃ t, ty kf = .array t) : pr_oS ms mi pc (po_putr ci kf (pc + 3)) :=
  os_putr_g fun d lo st h v h' k fs x ho hl kk => pr_putf hd hC hk hlink hfin ho hl (fun b => by rcases hty with ⟨n, hn⟩ | ⟨n, hn⟩ <;> rw [hn] <;> exact ⟨rfl, rfl⟩) kk
theorem os_putiN {idx ci kf N : Nat} {C : String} {T : u_T} {ty : Nat → FieldType} (hd : decode mi.2.1 pc = .ok (.putfield idx, 3)) (hC : pr_cf ci C T N ty) (hk : kf < N) {host : String} (hlink : (mi.1.cls, idx, (T kf).1, (T kf).2.1, (T kf).2.2.1, host) ∈ pz_nf) (hfin : (T kf).2.2.2 = false) (hty : ty kf = .int) : pr_oS ms mi pc (po_puti ci kf (pc + 3)) := by
  intro d call lo st h pc1 lo1 st1 h1 v h' _ ho k
  match st, ho with
  | .int x :: .ref a :: st, ho => exact os_puti_g (fun d lo st h v h' k fs ho hl kk => pr_putN hd hC hk hlink hfin ho hl (fun b => by rw [hty]; exact ⟨rfl, rfl⟩) kk) ho k
theorem os_putzN {idx ci kf N : Nat} {C : String} {T : u_T} {ty : Nat → FieldType} (hd : decode mi.2.1 pc = .ok (.putfield idx, 3)) (hC : pr_cf ci C T N ty) (hk : kf < N) {host : String} (hlink : (mi.1.cls, idx, (T kf).1, (T kf).2.1, (T kf).2.2.1, host) ∈ pz_nf) (hfin : (T kf).2.2.2 = false) (hty : ty kf = .boolean) : pr_oS ms mi pc (po_putz ci kf (pc + 3)) := by
  intro d call lo st h pc1 lo1 st1 h1 v h' _ ho k
  unfold po_putz at ho
  split at ho
  · rename_i x a st
    by_cases h0 : x = 0
    · rw [if_pos h0] at ho
      subst h0
      exact os_puti_g (fun d lo st h v h' k fs ho hl kk => pr_putN hd hC hk hlink hfin ho hl (fun b => by rw [hty]; exact ⟨rfl, rfl⟩) kk) ho k
    · rw [if_neg h0] at ho
      by_cases h1 : x = 1
      · rw [if_pos h1] at ho
        subst h1
        exact os_puti_g (fun d lo st h v h' k fs ho hl kk => pr_putN hd hC hk hlink hfin ho hl (fun b => by rw [hty]; exact ⟨rfl, rfl⟩) kk) ho k
      · rw [if_neg h1] at ho; cases ho
  · cases ho
theorem os_putrN {idx ci kf N : Nat} {C : String} {T : u_T} {ty : Nat → FieldType} (hd : decode mi.2.1 pc = .ok (.putfield idx, 3)) (hC : pr_cf ci C T N ty) (hk : kf < N) {host : String} (hlink : (mi.1.cls, idx, (T kf).1, (T kf).2.1, (T kf).2.2.1, host) ∈ pz_nf) (hfin : (T kf).2.2.2 = false) (hty : (∃ n, ty kf = .object n) ∨ ∃ t, ty kf = .array t) : pr_oS ms mi pc (po_putr ci kf (pc + 3)) :=
  os_putr_g fun d lo st h v h' k fs x ho hl kk => pr_putN hd hC hk hlink hfin ho hl (fun b => by rcases hty with ⟨n, hn⟩ | ⟨n, hn⟩ <;> rw [hn] <;> exact ⟨rfl, rfl⟩) kk
theorem os_putiF {idx ci kf N : Nat} {C : String} {T : u_T} {ty : Nat → FieldType} (hd : decode mi.2.1 pc = .ok (.putfield idx, 3)) (hC : pr_cf ci C T N ty) (hk : kf < N) (hlink : Cond.fieldLink mi.1.cls idx (T kf).1 (T kf).2.1 (T kf).2.2.1 ∈ pr_G) (hfin : (T kf).2.2.2 = true) (hini : mi.1.name = "<init>") (hdecl : (T kf).1 = mi.1.cls) (hty : ty kf = .int) : pr_oS ms mi pc (po_puti ci kf (pc + 3)) := by
  intro d call lo st h pc1 lo1 st1 h1 v h' _ ho k
  match st, ho with
  | .int x :: .ref a :: st, ho => exact os_puti_g (fun d lo st h v h' k fs ho hl kk => pr_putF hd hC hk hlink hfin hini hdecl ho hl (fun b => by rw [hty]; exact ⟨rfl, rfl⟩) kk) ho k
theorem os_putzF {idx ci kf N : Nat} {C : String} {T : u_T} {ty : Nat → FieldType} (hd : decode mi.2.1 pc = .ok (.putfield idx, 3)) (hC : pr_cf ci C T N ty) (hk : kf < N) (hlink : Cond.fieldLink mi.1.cls idx (T kf).1 (T kf).2.1 (T kf).2.2.1 ∈ pr_G) (hfin : (T kf).2.2.2 = true) (hini : mi.1.name = "<init>") (hdecl : (T kf).1 = mi.1.cls) (hty : ty kf = .boolean) : pr_oS ms mi pc (po_putz ci kf (pc + 3)) := by
  intro d call lo st h pc1 lo1 st1 h1 v h' _ ho k
  unfold po_putz at ho
  split at ho
  · rename_i x a st
    by_cases h0 : x = 0
    · rw [if_pos h0] at ho
      subst h0
      exact os_puti_g (fun d lo st h v h' k fs ho hl kk => pr_putF hd hC hk hlink hfin hini hdecl ho hl (fun b => by rw [hty]; exact ⟨rfl, rfl⟩) kk) ho k
    · rw [if_neg h0] at ho
      by_cases h1 : x = 1
      · rw [if_pos h1] at ho
        subst h1
        exact os_puti_g (fun d lo st h v h' k fs ho hl kk => pr_putF hd hC hk hlink hfin hini hdecl ho hl (fun b => by rw [hty]; exact ⟨rfl, rfl⟩) kk) ho k
      · rw [if_neg h1] at ho; cases ho
  · cases ho
theorem os_putrF {idx ci kf N : Nat} {C : String} {T : u_T} {ty : Nat → FieldType} (hd : decode mi.2.1 pc = .ok (.putfield idx, 3)) (hC : pr_cf ci C T N ty) (hk : kf < N) (hlink : Cond.fieldLink mi.1.cls idx (T kf).1 (T kf).2.1 (T kf).2.2.1 ∈ pr_G) (hfin : (T kf).2.2.2 = true) (hini : mi.1.name = "<init>") (hdecl : (T kf).1 = mi.1.cls) (hty : (∃ n, ty kf = .object n) ∨ ∃ t, ty kf = .array t) : pr_oS ms mi pc (po_putr ci kf (pc + 3)) :=
  os_putr_g fun d lo st h v h' k fs x ho hl kk => pr_putF hd hC hk hlink hfin hini hdecl ho hl (fun b => by rcases hty with ⟨n, hn⟩ | ⟨n, hn⟩ <;> rw [hn] <;> exact ⟨rfl, rfl⟩) kk
noncomputable def po_iald (nx : Nat) : pr_Op := fun _ lo st h => match st with
  | .int i :: .ref k :: st => match pr_at h k with
    | some (.inl (0, n, .inl f)) => if i < 0 ∨ n ≤ i.toNatClampNeg then none else pr_fi (f i.toNatClampNeg) (fun x => some (nx, lo, .int x :: st, h))
    | _ => none
  | _ => none
theorem os_iald (hd : decode mi.2.1 pc = .ok (.iaload, 1)) : pr_oS ms mi pc (po_iald (pc + 1)) := by
  intro d call lo st h pc1 lo1 st1 h1 v h' _ ho k
  unfold po_iald at ho
  split at ho
  · split at ho
    · rename_i hc
      rw [pr_at_eq] at hc
      split at ho
      · cases ho
      · rename_i hin
        rw [pr_fi_eq] at ho
        cases ho
        exact pr_iald hd rfl hc hin k
    · cases ho
  · cases ho
noncomputable def po_iast (nx : Nat) : pr_Op := fun _ lo st h => match st with
  | .int x :: .int i :: .ref k :: st => match pr_at h k with
    | some (.inl (0, n, .inl f)) => if i < 0 ∨ n ≤ i.toNatClampNeg then none else pr_fn i.toNatClampNeg (fun j => pr_wr (.inl (0, n, .inl (upd f j x))) h k (fun h => some (nx, lo, st, h)))
    | _ => none
  | _ => none
theorem os_iast (hd : decode mi.2.1 pc = .ok (.iastore, 1)) : pr_oS ms mi pc (po_iast (pc + 1)) := by
  intro d call lo st h pc1 lo1 st1 h1 v h' _ ho k
  unfold po_iast at ho
  split at ho
  · split at ho
    · rename_i hc
      rw [pr_at_eq] at hc
      split at ho
      · cases ho
      · rename_i hin
        rw [pr_fn_eq, pr_wr_eq] at ho
        cases ho
        exact pr_iast hd rfl hc hin k
    · cases ho
  · cases ho
noncomputable def po_alen (nx : Nat) : pr_Op := fun _ lo st h => match st with
  | .ref k :: st => match pr_at h k with
    | some (.inl (0, n, .inl _)) => pr_fi (Int32.ofNat n) (fun x => some (nx, lo, .int x :: st, h))
    | _ => none
  | _ => none
theorem os_alen (hd : decode mi.2.1 pc = .ok (.arraylength, 1)) : pr_oS ms mi pc (po_alen (pc + 1)) := by
  intro d call lo st h pc1 lo1 st1 h1 v h' _ ho k
  unfold po_alen at ho
  split at ho
  · split at ho
    · rename_i hc
      rw [pr_at_eq] at hc
      rw [pr_fi_eq] at ho
      cases ho
      exact pr_alen hd (ty := .int) rfl hc k
    · cases ho
  · cases ho
noncomputable def pr_len {α : Type} (l : List α) : Nat := List.rec (motive := fun _ => Nat) 0 (fun _ _ ih => ih + 1) l
theorem pr_len_eq {α : Type} : ∀ l : List α, pr_len l = l.length
  | [] => rfl
  | _ :: l => by show pr_len l + 1 = _; rw [pr_len_eq l]; rfl
noncomputable def po_newI (nx : Nat) : pr_Op := fun _ lo st h => match st with
  | .int n :: st => if n < 0 ∨ 100000000 < n.toNatClampNeg then none else pr_fn n.toNatClampNeg (fun N => pr_fn (pr_len h) (fun a => pr_ap (.inl (0, N, .inl (fun _ => 0))) h (fun h => some (nx, lo, .ref a :: st, h))))
  | _ => none
theorem os_newI (hd : decode mi.2.1 pc = .ok (.newarray .int, 2)) (hw : Cond.arrayClass .int ∈ pr_G) : pr_oS ms mi pc (po_newI (pc + 2)) := by
  intro d call lo st h pc1 lo1 st1 h1 v h' _ ho k
  unfold po_newI at ho
  split at ho
  · split at ho
    · cases ho
    · rename_i hin
      rw [pr_fn_eq, pr_fn_eq, pr_ap_eq, pr_len_eq] at ho
      cases ho
      exact pr_newI hd rfl hw (fun q => hin (Or.inl q)) rfl (Nat.le_of_not_lt (fun q => hin (Or.inr q))) k
  · cases ho
noncomputable def po_new (ci : Nat) (fs : List Value) (nx : Nat) : pr_Op := fun _ lo st h => pr_fn (pr_len h) (fun a => pr_ap (.inr (ci, fs)) h (fun h => some (nx, lo, .ref a :: st, h)))
theorem os_new {idx ci N : Nat} {C : String} {T : u_T} {ty : Nat → FieldType} {fs : List Value} (hd : decode mi.2.1 pc = .ok (.new idx, 3)) (hC : pr_cf ci C T N ty) (hcl : Cond.classLink mi.1.cls idx C ∈ pr_G) (hins : Cond.instantiable C N ∈ pr_G) (hini : Cond.initialized C ∈ pr_G) (hfs : fs = (List.range N).map (fun j => defaultValue (ty j))) : pr_oS ms mi pc (po_new ci fs (pc + 3)) := by
  intro d call lo st h pc1 lo1 st1 h1 v h' _ ho k
  unfold po_new at ho
  rw [pr_fn_eq, pr_ap_eq, pr_len_eq] at ho
  cases ho
  exact pr_new hd hC hcl hins hini (by rw [hfs]; simp) (fun j hj => by rw [hfs]; simp [hj]) k
/-- what lies on the stack below a call is small -/
noncomputable def pr_sm (st : List Value) : Bool := Nat.ble (st.map fun v => v.category).sum 8
noncomputable def po_oi (nx : Nat) : pr_Op := fun _ lo st h => match st with
  | .ref _ :: st => Bool.rec (motive := fun _ => Option pr_N) none (some (nx, lo, st, h)) (pr_sm st)
  | _ => none
theorem os_oi {idx : Nat} (hd : decode mi.2.1 pc = .ok (.invokespecial idx, 3)) (h1 : Cond.methodLink mi.1.cls idx objectInit ∈ pr_G) (h2 : Cond.instanceMethod objectInit ∈ pr_G) (h3 : Cond.code objectInit ⟨#[0xb1]⟩ 1 none ∈ pr_G) : pr_oS ms mi pc (po_oi (pc + 3)) := by
  intro d call lo st h pc1 lo1 st1 h1 v h' _ ho k
  unfold po_oi at ho
  split at ho
  · rename_i a st
    cases hb : pr_sm st with
    | false => rw [hb] at ho; cases ho
    | true =>
      rw [hb] at ho
      cases ho
      exact pr_objInit hd (by assumption) h2 h3 (Nat.le_of_ble_eq_true hb) k
  · cases ho
/-- a call on an object of class ci: n arguments, mx locals -/
noncomputable def po_cv (k n ci mx nx : Nat) : pr_Op := fun call lo st h => match pr_pop n [] st with
  | some (as, .ref a :: rest) => match pr_at h a with
    | some (.inr (c, _)) => Bool.rec (motive := fun _ => Option pr_N) none (match call k (.ref a :: as) h with
      | some (v1, h1) => some (nx, lo, v1.toList ++ rest, h1)
      | none => none) (Nat.beq c ci && (pr_sm rest && Nat.ble (lg_sl (.ref a :: as)).length mx))
    | _ => none
  | _ => none
noncomputable def po_cs (k n mx nx : Nat) : pr_Op := fun call lo st h => match pr_pop n [] st with
  | some (as, rest) => Bool.rec (motive := fun _ => Option pr_N) none (match call k as h with
      | some (v1, h1) => some (nx, lo, v1.toList ++ rest, h1)
      | none => none) (pr_sm rest && Nat.ble (lg_sl as).length mx)
  | _ => none
noncomputable def po_ci (k n mx nx : Nat) : pr_Op := fun call lo st h => match pr_pop n [] st with
  | some (as, .ref a :: rest) => Bool.rec (motive := fun _ => Option pr_N) none (match call k (.ref a :: as) h with
      | some (none, h1) => some (nx, lo, rest, h1)
      | _ => none) (pr_sm rest && Nat.ble (lg_sl (.ref a :: as)).length mx)
  | _ => none
theorem os_cv_g {k n ci mx nx : Nat} {m2 : pr_M} (hk : ms[k]? = some m2) (hmx : m2.2.2.1 = mx) (hr : ∀ (d : Nat) (lo : pr_L) (h : pr_H) (v : Option Value) (h' : pr_H) (a : Nat) (fs as rest : List Value) (v1 : Option Value) (h1 : pr_H), as.length = n → h[a]? = some (.inr (ci, fs)) → (rest.map fun v => v.category).sum ≤ 8 → pr_Met d m2 (.ref a :: as) h v1 h1 → pr_R (d + 1) mi nx lo (v1.toList ++ rest) h1 v h' → pr_R (d + 1) mi pc lo (as.reverse ++ .ref a :: rest) h v h') : pr_oS ms mi pc (po_cv k n ci mx nx) := by
  intro d call lo st h pc1 lo1 st1 h1 v h' hca ho kk
  unfold po_cv at ho
  split at ho
  · rename_i as a rest hp
    obtain ⟨bs, e1, e2, e3⟩ := pr_pop_eq _ _ _ _ _ hp
    rw [List.append_nil] at e1
    subst e1
    subst e3
    split at ho
    · rename_i c fs hc
      rw [pr_at_eq] at hc
      cases hb : Nat.beq c ci && (pr_sm rest && Nat.ble (lg_sl (.ref a :: as)).length mx) with
      | false => rw [hb] at ho; cases ho
      | true =>
        rw [hb] at ho
        dsimp only at ho
        simp only [Bool.and_eq_true] at hb
        have := Nat.eq_of_beq_eq_true hb.1
        subst this
        split at ho
        · rename_i v1 h2 hcall
          cases ho
          obtain ⟨d0, hd0, hM⟩ := hca k m2 _ _ _ _ hk (by rw [hmx]; exact Nat.le_of_ble_eq_true hb.2.2) hcall
          cases hd0
          exact hr _ _ _ _ _ _ _ _ _ _ _ e2 hc (Nat.le_of_ble_eq_true hb.2.1) hM kk
        · cases ho
    · cases ho
  · cases ho
theorem os_cs_g {k n mx nx : Nat} {m2 : pr_M} (hk : ms[k]? = some m2) (hmx : m2.2.2.1 = mx) (hr : ∀ (d : Nat) (lo : pr_L) (h : pr_H) (v : Option Value) (h' : pr_H) (as rest : List Value) (v1 : Option Value) (h1 : pr_H), as.length = n → (rest.map fun v => v.category).sum ≤ 8 → pr_Met d m2 as h v1 h1 → pr_R (d + 1) mi nx lo (v1.toList ++ rest) h1 v h' → pr_R (d + 1) mi pc lo (as.reverse ++ rest) h v h') : pr_oS ms mi pc (po_cs k n mx nx) := by
  intro d call lo st h pc1 lo1 st1 h1 v h' hca ho kk
  unfold po_cs at ho
  split at ho
  · rename_i as rest hp
    obtain ⟨bs, e1, e2, e3⟩ := pr_pop_eq _ _ _ _ _ hp
    rw [List.append_nil] at e1
    subst e1
    subst e3
    cases hb : pr_sm rest && Nat.ble (lg_sl as).length mx with
    | false => rw [hb] at ho; cases ho
    | true =>
      rw [hb] at ho
      dsimp only at ho
      simp only [Bool.and_eq_true] at hb
      split at ho
      · rename_i v1 h2 hcall
        cases ho
        obtain ⟨d0, hd0, hM⟩ := hca k m2 _ _ _ _ hk (by rw [hmx]; exact Nat.le_of_ble_eq_true hb.2) hcall
        cases hd0
        exact hr _ _ _ _ _ _ _ _ _ e2 (Nat.le_of_ble_eq_true hb.1) hM kk
      · cases ho
  · cases ho
theorem os_ci_g {k n mx nx : Nat} {m2 : pr_M} (hk : ms[k]? = some m2) (hmx : m2.2.2.1 = mx) (hr : ∀ (d : Nat) (lo : pr_L) (h : pr_H) (v : Option Value) (h' : pr_H) (a : Nat) (as rest : List Value) (h1 : pr_H), as.length = n → (rest.map fun v => v.category).sum ≤ 8 → pr_Met d m2 (.ref a :: as) h none h1 → pr_R (d + 1) mi nx lo rest h1 v h' → pr_R (d + 1) mi pc lo (as.reverse ++ .ref a :: rest) h v h') : pr_oS ms mi pc (po_ci k n mx nx) := by
  intro d call lo st h pc1 lo1 st1 h1 v h' hca ho kk
  unfold po_ci at ho
  split at ho
  · rename_i as a rest hp
    obtain ⟨bs, e1, e2, e3⟩ := pr_pop_eq _ _ _ _ _ hp
    rw [List.append_nil] at e1
    subst e1
    subst e3
    cases hb : pr_sm rest && Nat.ble (lg_sl (.ref a :: as)).length mx with
    | false => rw [hb] at ho; cases ho
    | true =>
      rw [hb] at ho
      dsimp only at ho
      simp only [Bool.and_eq_true] at hb
      split at ho
      · rename_i h2 hcall
        cases ho
        obtain ⟨d0, hd0, hM⟩ := hca k m2 _ _ _ _ hk (by rw [hmx]; exact Nat.le_of_ble_eq_true hb.2) hcall
        cases hd0
        exact hr _ _ _ _ _ _ _ _ _ e2 (Nat.le_of_ble_eq_true hb.1) hM kk
      · cases ho
  · cases ho
theorem os_cv {idx k n ci mx N : Nat} {T : u_T} {m2 : pr_M} (hd : decode mi.2.1 pc = .ok (.invokevirtual idx, 3)) (hk : ms[k]? = some m2) (hmx : m2.2.2.1 = mx) (hc : pr_cal m2 n) (hl : Cond.methodLink mi.1.cls idx m2.1 ∈ pr_G) (hi : Cond.instanceMethod m2.1 ∈ pr_G) (hse : Cond.selects m2.1.cls m2.1 m2.1 ∈ pr_G) (hcl : pr_cl[ci]? = some (m2.1.cls, T, N)) : pr_oS ms mi pc (po_cv k n ci mx (pc + 3)) :=
  os_cv_g hk hmx fun d lo h v h' a fs as rest v1 h1 hn ho hst hM kk => pr_callV hd hc hl hi hse hn hcl ho hst hM kk
theorem os_cvN {idx k n ci mx N : Nat} {host : String} {T : u_T} {m2 : pr_M} (hd : decode mi.2.1 pc = .ok (.invokevirtual idx, 3)) (hk : ms[k]? = some m2) (hmx : m2.2.2.1 = mx) (hc : pr_cal m2 n) (hl : (mi.1.cls, idx, m2.1, host) ∈ pz_nm) (hi : Cond.instanceMethod m2.1 ∈ pr_G) (hse : Cond.selects m2.1.cls m2.1 m2.1 ∈ pr_G) (hcl : pr_cl[ci]? = some (m2.1.cls, T, N)) : pr_oS ms mi pc (po_cv k n ci mx (pc + 3)) :=
  os_cv_g hk hmx fun d lo h v h' a fs as rest v1 h1 hn ho hst hM kk => pr_callVN hd hc hl hi hse hn hcl ho hst hM kk
theorem os_cs {idx k n mx : Nat} {m2 : pr_M} (hd : decode mi.2.1 pc = .ok (.invokestatic idx, 3)) (hk : ms[k]? = some m2) (hmx : m2.2.2.1 = mx) (hc : pr_cal m2 n) (hl : Cond.methodLink mi.1.cls idx m2.1 ∈ pr_G) (hi : Cond.static m2.1 ∈ pr_G) : pr_oS ms mi pc (po_cs k n mx (pc + 3)) :=
  os_cs_g hk hmx fun d lo h v h' as rest v1 h1 hn hst hM kk => pr_callS hd hc hl hi hn hst hM kk
theorem os_csN {idx k n mx : Nat} {host : String} {m2 : pr_M} (hd : decode mi.2.1 pc = .ok (.invokestatic idx, 3)) (hk : ms[k]? = some m2) (hmx : m2.2.2.1 = mx) (hc : pr_cal m2 n) (hl : (mi.1.cls, idx, m2.1, host) ∈ pz_nm) (hi : Cond.static m2.1 ∈ pr_G) : pr_oS ms mi pc (po_cs k n mx (pc + 3)) :=
  os_cs_g hk hmx fun d lo h v h' as rest v1 h1 hn hst hM kk => pr_callSN hd hc hl hi hn hst hM kk
theorem os_ci {idx k n mx : Nat} {m2 : pr_M} (hd : decode mi.2.1 pc = .ok (.invokespecial idx, 3)) (hk : ms[k]? = some m2) (hmx : m2.2.2.1 = mx) (hc : pr_cal m2 n) (hl : Cond.methodLink mi.1.cls idx m2.1 ∈ pr_G) (hi : Cond.instanceMethod m2.1 ∈ pr_G) (hin : m2.1.name = "<init>") (hret : m2.2.2.2 = none) : pr_oS ms mi pc (po_ci k n mx (pc + 3)) :=
  os_ci_g hk hmx fun d lo h v h' a as rest h1 hn hst hM kk => pr_callI hd hc hl hi hin hret hn hst hM kk
theorem os_ciN {idx k n mx : Nat} {host : String} {m2 : pr_M} (hd : decode mi.2.1 pc = .ok (.invokespecial idx, 3)) (hk : ms[k]? = some m2) (hmx : m2.2.2.1 = mx) (hc : pr_cal m2 n) (hl : (mi.1.cls, idx, m2.1, host) ∈ pz_nm) (hi : Cond.instanceMethod m2.1 ∈ pr_G) (hin : m2.1.name = "<init>") (hret : m2.2.2.2 = none) : pr_oS ms mi pc (po_ci k n mx (pc + 3)) :=
  os_ci_g hk hmx fun d lo h v h' a as rest h1 hn hst hM kk => pr_callIN hd hc hl hi hin hret hn hst hM kk
end PRO
