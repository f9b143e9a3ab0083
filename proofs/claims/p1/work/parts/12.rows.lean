def pr_get (lo : List (Nat × Value)) (i : Nat) : Option Value := (lo.find? (fun q => q.1 == i)).map (fun q => q.2)
def pr_put1 (lo : List (Nat × Value)) (i : Nat) (w : Value) : List (Nat × Value) := (i, w) :: lo.filter (fun q => !(q.1 == i) && !(q.1 + 1 == i && q.2.category == 2))
def pr_put2 (lo : List (Nat × Value)) (i : Nat) (w : Value) : List (Nat × Value) := (i, w) :: lo.filter (fun q => !(q.1 == i) && (!(q.1 == i + 1) && !(q.1 + 1 == i && q.2.category == 2)))
theorem pr_put1_eq (b : pr_B) (lo : List (Nat × Value)) (i : Nat) (w : Value) : (i, pr_v b w) :: (pr_lo b lo).filter (fun q => !(q.1 == i) && !(q.1 + 1 == i && q.2.category == 2)) = pr_lo b (pr_put1 lo i w) := by
  simp only [pr_lo, pr_put1, List.map_cons, List.filter_map, Function.comp_def, pr_v_cat]
theorem pr_put2_eq (b : pr_B) (lo : List (Nat × Value)) (i : Nat) (w : Value) : (i, pr_v b w) :: (pr_lo b lo).filter (fun q => !(q.1 == i) && (!(q.1 == i + 1) && !(q.1 + 1 == i && q.2.category == 2))) = pr_lo b (pr_put2 lo i w) := by
  simp only [pr_lo, pr_put2, List.map_cons, List.filter_map, Function.comp_def, pr_v_cat]
theorem pr_get_at {ls : Array Slot} {n i : Nat} {b : pr_B} {lo : List (Nat × Value)} {w : Value} (hl : lv_has ls n (pr_lo b lo)) (hg : pr_get lo i = some w) : ls[i]? = some (.val (pr_v b w)) := by
  unfold pr_get at hg
  cases hf : lo.find? (fun q => q.1 == i) with
  | none => rw [hf] at hg; cases hg
  | some q =>
    rw [hf] at hg
    cases hg
    have h1 := List.mem_of_find?_eq_some hf
    have h2 : q.1 = i := by simpa using List.find?_some hf
    have h3 := hl.2.2 (q.1, pr_v b q.2) (List.mem_map.mpr ⟨q, h1, rfl⟩)
    rw [← h2]
    exact h3
section PRW
variable {d : Nat} {mi : pr_M} {pc pc1 : Nat} {lo lo1 : List (Nat × Value)} {st st1 : List Value} {h : pr_H} {v : Option Value} {h' : pr_H}
/-- an instruction that changes pc and stack alone -/
theorem pr_to (k : pr_R d mi pc1 lo st1 h v h') (hs : ∀ (b : pr_B) (p : Program) (l : Launch) (e : Env) (R : Room) (s : State) (m : MethodId) (args : Array Value) (below : List Frame) (meth : Method) (c : Code) (H : Heap) (locs : List Loc) (cells slots : Nat) (ls : Array Slot) (Q : State → Prop) (D : va_G) (aC : Nat → ClassId),
    pr_X d mi D aC b p R s m args meth c → pr_I b D aC h H → lv_has ls mi.2.2.1 (pr_lo b lo) → W p l e R s m args below meth c H locs cells slots Q (F0 m pc1 ls (st1.map (pr_v b))) → W p l e R s m args below meth c H locs cells slots Q (F0 m pc ls (st.map (pr_v b)))) : pr_R d mi pc lo st h v h' := by
  refine ⟨k.1, k.2.1, fun D aC b p l e R s m args below meth c X H locs cells slots ls hI hS hl h1 h2 => ?_⟩
  exact hs b p l e R s m args below meth c H locs cells slots ls _ D aC X hI hl (k.2.2 D aC b p l e R s m args below meth c X H locs cells slots ls hI hS hl h1 h2)
/-- an instruction that changes the locals too -/
theorem pr_toL (k : pr_R d mi pc1 lo1 st1 h v h') (hs : ∀ (b : pr_B) (p : Program) (l : Launch) (e : Env) (R : Room) (s : State) (m : MethodId) (args : Array Value) (below : List Frame) (meth : Method) (c : Code) (H : Heap) (locs : List Loc) (cells slots : Nat) (ls : Array Slot) (Q : State → Prop) (D : va_G) (aC : Nat → ClassId),
    pr_X d mi D aC b p R s m args meth c → lv_has ls mi.2.2.1 (pr_lo b lo) → (∀ ls1 : Array Slot, lv_has ls1 mi.2.2.1 (pr_lo b lo1) → W p l e R s m args below meth c H locs cells slots Q (F0 m pc1 ls1 (st1.map (pr_v b)))) → W p l e R s m args below meth c H locs cells slots Q (F0 m pc ls (st.map (pr_v b)))) : pr_R d mi pc lo st h v h' := by
  refine ⟨k.1, k.2.1, fun D aC b p l e R s m args below meth c X H locs cells slots ls hI hS hl h1 h2 => ?_⟩
  exact hs b p l e R s m args below meth c H locs cells slots ls _ D aC X hl (fun ls1 hl1 => k.2.2 D aC b p l e R s m args below meth c X H locs cells slots ls1 hI hS hl1 h1 h2)
theorem pr_iconst {n : Int} (hd : decode mi.2.1 pc = .ok (.iconst n, 1)) (k : pr_R d mi (pc + 1) lo (.int (Int32.ofInt n) :: st) h v h') : pr_R d mi pc lo st h v h' :=
  pr_to k fun b p l e R s m args below meth c H locs cells slots ls Q D aC X hI hl kk => lv_iconst X.1 X.2.1 hd rfl kk
theorem pr_bipush {n : Int} (hd : decode mi.2.1 pc = .ok (.bipush n, 2)) (k : pr_R d mi (pc + 2) lo (.int (Int8.ofInt n).toInt32 :: st) h v h') : pr_R d mi pc lo st h v h' :=
  pr_to k fun b p l e R s m args below meth c H locs cells slots ls Q D aC X hI hl kk => lv_bipush X.1 X.2.1 hd rfl kk
theorem pr_sipush {n : Int} (hd : decode mi.2.1 pc = .ok (.sipush n, 3)) (k : pr_R d mi (pc + 3) lo (.int (Int16.ofInt n).toInt32 :: st) h v h') : pr_R d mi pc lo st h v h' :=
  pr_to k fun b p l e R s m args below meth c H locs cells slots ls Q D aC X hI hl kk => lv_sipush X.1 X.2.1 hd rfl kk
theorem pr_iadd {x y : Int32} (hd : decode mi.2.1 pc = .ok (.iadd, 1)) (k : pr_R d mi (pc + 1) lo (.int (x + y) :: st) h v h') : pr_R d mi pc lo (.int y :: .int x :: st) h v h' :=
  pr_to k fun b p l e R s m args below meth c H locs cells slots ls Q D aC X hI hl kk => lv_iadd X.1 X.2.1 hd kk
theorem pr_isub {x y : Int32} (hd : decode mi.2.1 pc = .ok (.isub, 1)) (k : pr_R d mi (pc + 1) lo (.int (x - y) :: st) h v h') : pr_R d mi pc lo (.int y :: .int x :: st) h v h' :=
  pr_to k fun b p l e R s m args below meth c H locs cells slots ls Q D aC X hI hl kk => lv_isub X.1 X.2.1 hd kk
theorem pr_imul {x y : Int32} (hd : decode mi.2.1 pc = .ok (.imul, 1)) (k : pr_R d mi (pc + 1) lo (.int (x * y) :: st) h v h') : pr_R d mi pc lo (.int y :: .int x :: st) h v h' :=
  pr_to k fun b p l e R s m args below meth c H locs cells slots ls Q D aC X hI hl kk => lv_imul X.1 X.2.1 hd kk
theorem pr_iand {x y : Int32} (hd : decode mi.2.1 pc = .ok (.iand, 1)) (k : pr_R d mi (pc + 1) lo (.int (x &&& y) :: st) h v h') : pr_R d mi pc lo (.int y :: .int x :: st) h v h' :=
  pr_to k fun b p l e R s m args below meth c H locs cells slots ls Q D aC X hI hl kk => lv_iand X.1 X.2.1 hd kk
theorem pr_ior {x y : Int32} (hd : decode mi.2.1 pc = .ok (.ior, 1)) (k : pr_R d mi (pc + 1) lo (.int (x ||| y) :: st) h v h') : pr_R d mi pc lo (.int y :: .int x :: st) h v h' :=
  pr_to k fun b p l e R s m args below meth c H locs cells slots ls Q D aC X hI hl kk => lv_ior X.1 X.2.1 hd kk
theorem pr_ixor {x y : Int32} (hd : decode mi.2.1 pc = .ok (.ixor, 1)) (k : pr_R d mi (pc + 1) lo (.int (x ^^^ y) :: st) h v h') : pr_R d mi pc lo (.int y :: .int x :: st) h v h' :=
  pr_to k fun b p l e R s m args below meth c H locs cells slots ls Q D aC X hI hl kk => lv_ixor X.1 X.2.1 hd kk
theorem pr_ishl {x y : Int32} (hd : decode mi.2.1 pc = .ok (.ishl, 1)) (k : pr_R d mi (pc + 1) lo (.int (x <<< (y &&& 31)) :: st) h v h') : pr_R d mi pc lo (.int y :: .int x :: st) h v h' :=
  pr_to k fun b p l e R s m args below meth c H locs cells slots ls Q D aC X hI hl kk => lv_ishl X.1 X.2.1 hd kk
theorem pr_ishr {x y : Int32} (hd : decode mi.2.1 pc = .ok (.ishr, 1)) (k : pr_R d mi (pc + 1) lo (.int (x >>> (y &&& 31)) :: st) h v h') : pr_R d mi pc lo (.int y :: .int x :: st) h v h' :=
  pr_to k fun b p l e R s m args below meth c H locs cells slots ls Q D aC X hI hl kk => lv_ishr X.1 X.2.1 hd kk
theorem pr_iushr {x y : Int32} (hd : decode mi.2.1 pc = .ok (.iushr, 1)) (k : pr_R d mi (pc + 1) lo (.int (x.toUInt32 >>> (y.toUInt32 &&& Int32.toUInt32 31)).toInt32 :: st) h v h') : pr_R d mi pc lo (.int y :: .int x :: st) h v h' :=
  pr_to k fun b p l e R s m args below meth c H locs cells slots ls Q D aC X hI hl kk => lv_iushr X.1 X.2.1 hd rfl kk
theorem pr_idiv {x y : Int32} (hd : decode mi.2.1 pc = .ok (.idiv, 1)) (hn : ¬ y = 0) (k : pr_R d mi (pc + 1) lo (.int (x / y) :: st) h v h') : pr_R d mi pc lo (.int y :: .int x :: st) h v h' :=
  pr_to k fun b p l e R s m args below meth c H locs cells slots ls Q D aC X hI hl kk => lv_idiv X.1 X.2.1 hd hn kk
theorem pr_irem {x y : Int32} (hd : decode mi.2.1 pc = .ok (.irem, 1)) (hn : ¬ y = 0) (k : pr_R d mi (pc + 1) lo (.int (x - x / y * y) :: st) h v h') : pr_R d mi pc lo (.int y :: .int x :: st) h v h' :=
  pr_to k fun b p l e R s m args below meth c H locs cells slots ls Q D aC X hI hl kk => lv_irem X.1 X.2.1 hd hn kk
theorem pr_ineg {x : Int32} (hd : decode mi.2.1 pc = .ok (.ineg, 1)) (k : pr_R d mi (pc + 1) lo (.int (-x) :: st) h v h') : pr_R d mi pc lo (.int x :: st) h v h' :=
  pr_to k fun b p l e R s m args below meth c H locs cells slots ls Q D aC X hI hl kk => lv_ineg X.1 X.2.1 hd kk
theorem pr_i2l {x : Int32} (hd : decode mi.2.1 pc = .ok (.i2l, 1)) (k : pr_R d mi (pc + 1) lo (.long x.toInt64 :: st) h v h') : pr_R d mi pc lo (.int x :: st) h v h' :=
  pr_to k fun b p l e R s m args below meth c H locs cells slots ls Q D aC X hI hl kk => lv_i2l X.1 X.2.1 hd rfl kk
theorem pr_l2i {x : Int64} (hd : decode mi.2.1 pc = .ok (.l2i, 1)) (k : pr_R d mi (pc + 1) lo (.int x.toInt32 :: st) h v h') : pr_R d mi pc lo (.long x :: st) h v h' :=
  pr_to k fun b p l e R s m args below meth c H locs cells slots ls Q D aC X hI hl kk => lv_l2i X.1 X.2.1 hd rfl kk
theorem pr_lushr {x : Int64} {y : Int32} (hd : decode mi.2.1 pc = .ok (.lushr, 1)) (k : pr_R d mi (pc + 1) lo (.long (x.toUInt64 >>> (y.toInt64.toUInt64 &&& Int64.toUInt64 63)).toInt64 :: st) h v h') : pr_R d mi pc lo (.int y :: .long x :: st) h v h' :=
  pr_to k fun b p l e R s m args below meth c H locs cells slots ls Q D aC X hI hl kk => lv_lushr X.1 X.2.1 hd rfl kk
theorem pr_lshr {x : Int64} {y : Int32} (hd : decode mi.2.1 pc = .ok (.lshr, 1)) (k : pr_R d mi (pc + 1) lo (.long (x >>> (y.toInt64 &&& 63)) :: st) h v h') : pr_R d mi pc lo (.int y :: .long x :: st) h v h' :=
  pr_to k fun b p l e R s m args below meth c H locs cells slots ls Q D aC X hI hl kk => lv_lshr X.1 X.2.1 hd rfl kk
theorem pr_lshl {x : Int64} {y : Int32} (hd : decode mi.2.1 pc = .ok (.lshl, 1)) (k : pr_R d mi (pc + 1) lo (.long (x <<< (y.toInt64 &&& 63)) :: st) h v h') : pr_R d mi pc lo (.int y :: .long x :: st) h v h' :=
  pr_to k fun b p l e R s m args below meth c H locs cells slots ls Q D aC X hI hl kk => lv_lshl X.1 X.2.1 hd rfl kk
theorem pr_ladd {x y : Int64} (hd : decode mi.2.1 pc = .ok (.ladd, 1)) (k : pr_R d mi (pc + 1) lo (.long (x + y) :: st) h v h') : pr_R d mi pc lo (.long y :: .long x :: st) h v h' :=
  pr_to k fun b p l e R s m args below meth c H locs cells slots ls Q D aC X hI hl kk => lv_ladd X.1 X.2.1 hd kk
theorem pr_lsub {x y : Int64} (hd : decode mi.2.1 pc = .ok (.lsub, 1)) (k : pr_R d mi (pc + 1) lo (.long (x - y) :: st) h v h') : pr_R d mi pc lo (.long y :: .long x :: st) h v h' :=
  pr_to k fun b p l e R s m args below meth c H locs cells slots ls Q D aC X hI hl kk => lv_lsub X.1 X.2.1 hd kk
theorem pr_lmul {x y : Int64} (hd : decode mi.2.1 pc = .ok (.lmul, 1)) (k : pr_R d mi (pc + 1) lo (.long (x * y) :: st) h v h') : pr_R d mi pc lo (.long y :: .long x :: st) h v h' :=
  pr_to k fun b p l e R s m args below meth c H locs cells slots ls Q D aC X hI hl kk => lv_lmul X.1 X.2.1 hd kk
theorem pr_land {x y : Int64} (hd : decode mi.2.1 pc = .ok (.land, 1)) (k : pr_R d mi (pc + 1) lo (.long (x &&& y) :: st) h v h') : pr_R d mi pc lo (.long y :: .long x :: st) h v h' :=
  pr_to k fun b p l e R s m args below meth c H locs cells slots ls Q D aC X hI hl kk => lv_land X.1 X.2.1 hd kk
theorem pr_lor {x y : Int64} (hd : decode mi.2.1 pc = .ok (.lor, 1)) (k : pr_R d mi (pc + 1) lo (.long (x ||| y) :: st) h v h') : pr_R d mi pc lo (.long y :: .long x :: st) h v h' :=
  pr_to k fun b p l e R s m args below meth c H locs cells slots ls Q D aC X hI hl kk => lv_lor X.1 X.2.1 hd kk
theorem pr_lxor {x y : Int64} (hd : decode mi.2.1 pc = .ok (.lxor, 1)) (k : pr_R d mi (pc + 1) lo (.long (x ^^^ y) :: st) h v h') : pr_R d mi pc lo (.long y :: .long x :: st) h v h' :=
  pr_to k fun b p l e R s m args below meth c H locs cells slots ls Q D aC X hI hl kk => lv_lxor X.1 X.2.1 hd kk
theorem pr_dup {w : Value} (hd : decode mi.2.1 pc = .ok (.dup, 1)) (hw : w.category = 1) (k : pr_R d mi (pc + 1) lo (w :: w :: st) h v h') : pr_R d mi pc lo (w :: st) h v h' :=
  pr_to k fun b p l e R s m args below meth c H locs cells slots ls Q D aC X hI hl kk => lv_dup X.1 X.2.1 hd (by rw [pr_v_cat]; exact hw) kk
theorem pr_pop1 {w : Value} (hd : decode mi.2.1 pc = .ok (.pop, 1)) (hw : w.category = 1) (k : pr_R d mi (pc + 1) lo (st) h v h') : pr_R d mi pc lo (w :: st) h v h' :=
  pr_to k fun b p l e R s m args below meth c H locs cells slots ls Q D aC X hI hl kk => lv_pop X.1 X.2.1 hd (by rw [pr_v_cat]; exact hw) kk
theorem pr_dup_x1 {w u : Value} (hd : decode mi.2.1 pc = .ok (.dup_x1, 1)) (hw : w.category = 1) (hu : u.category = 1) (k : pr_R d mi (pc + 1) lo (w :: u :: w :: st) h v h') : pr_R d mi pc lo (w :: u :: st) h v h' :=
  pr_to k fun b p l e R s m args below meth c H locs cells slots ls Q D aC X hI hl kk => lv_dup_x1 X.1 X.2.1 hd (by rw [pr_v_cat]; exact hw) (by rw [pr_v_cat]; exact hu) kk
theorem pr_dup2 {w u : Value} (hd : decode mi.2.1 pc = .ok (.dup2, 1)) (hw : w.category = 1) (hu : u.category = 1) (k : pr_R d mi (pc + 1) lo (w :: u :: w :: u :: st) h v h') : pr_R d mi pc lo (w :: u :: st) h v h' :=
  pr_to k fun b p l e R s m args below meth c H locs cells slots ls Q D aC X hI hl kk => lv_dup2_11 X.1 X.2.1 hd (by rw [pr_v_cat]; exact hw) (by rw [pr_v_cat]; exact hu) kk
theorem pr_dup_x2 {w u z : Value} (hd : decode mi.2.1 pc = .ok (.dup_x2, 1)) (hw : w.category = 1) (hu : u.category = 1) (hz : z.category = 1) (k : pr_R d mi (pc + 1) lo (w :: u :: z :: w :: st) h v h') : pr_R d mi pc lo (w :: u :: z :: st) h v h' :=
  pr_to k fun b p l e R s m args below meth c H locs cells slots ls Q D aC X hI hl kk => lv_dup_x2 X.1 X.2.1 hd (by rw [pr_v_cat]; exact hw) (by rw [pr_v_cat]; exact hu) (by rw [pr_v_cat]; exact hz) kk
theorem pr_null (hd : decode mi.2.1 pc = .ok (.aconst_null, 1)) (k : pr_R d mi (pc + 1) lo (.null :: st) h v h') : pr_R d mi pc lo (st) h v h' :=
  pr_to k fun b p l e R s m args below meth c H locs cells slots ls Q D aC X hI hl kk => lv_null X.1 X.2.1 hd kk
theorem pr_iload_n {q : Fin 4} {x : Int32} (hd : decode mi.2.1 pc = .ok (.iload_n q, 1)) (hg : pr_get lo q.val = some (.int x)) (k : pr_R d mi (pc + 1) lo (.int x :: st) h v h') : pr_R d mi pc lo (st) h v h' :=
  pr_to k fun b p l e R s m args below meth c H locs cells slots ls Q D aC X hI hl kk => lv_iload_n X.1 X.2.1 hd rfl (pr_get_at hl hg) kk
theorem pr_iload {i : Nat} {x : Int32} (hd : decode mi.2.1 pc = .ok (.iload i, 2)) (hg : pr_get lo i = some (.int x)) (k : pr_R d mi (pc + 2) lo (.int x :: st) h v h') : pr_R d mi pc lo (st) h v h' :=
  pr_to k fun b p l e R s m args below meth c H locs cells slots ls Q D aC X hI hl kk => lv_iload X.1 X.2.1 hd (pr_get_at hl hg) kk
theorem pr_lload_n {q : Fin 4} {x : Int64} (hd : decode mi.2.1 pc = .ok (.lload_n q, 1)) (hg : pr_get lo q.val = some (.long x)) (k : pr_R d mi (pc + 1) lo (.long x :: st) h v h') : pr_R d mi pc lo (st) h v h' :=
  pr_to k fun b p l e R s m args below meth c H locs cells slots ls Q D aC X hI hl kk => lv_lload_n X.1 X.2.1 hd rfl (pr_get_at hl hg) kk
theorem pr_lload {i : Nat} {x : Int64} (hd : decode mi.2.1 pc = .ok (.lload i, 2)) (hg : pr_get lo i = some (.long x)) (k : pr_R d mi (pc + 2) lo (.long x :: st) h v h') : pr_R d mi pc lo (st) h v h' :=
  pr_to k fun b p l e R s m args below meth c H locs cells slots ls Q D aC X hI hl kk => lv_lload X.1 X.2.1 hd (pr_get_at hl hg) kk
theorem pr_aload_n {q : Fin 4} {x : Nat} (hd : decode mi.2.1 pc = .ok (.aload_n q, 1)) (hg : pr_get lo q.val = some (.ref x)) (k : pr_R d mi (pc + 1) lo (.ref x :: st) h v h') : pr_R d mi pc lo (st) h v h' :=
  pr_to k fun b p l e R s m args below meth c H locs cells slots ls Q D aC X hI hl kk => lv_aload_n X.1 X.2.1 hd rfl (pr_get_at hl hg) kk
theorem pr_aload {i x : Nat} (hd : decode mi.2.1 pc = .ok (.aload i, 2)) (hg : pr_get lo i = some (.ref x)) (k : pr_R d mi (pc + 2) lo (.ref x :: st) h v h') : pr_R d mi pc lo (st) h v h' :=
  pr_to k fun b p l e R s m args below meth c H locs cells slots ls Q D aC X hI hl kk => lv_aload X.1 X.2.1 hd (pr_get_at hl hg) kk
theorem pr_aload_nN {q : Fin 4} (hd : decode mi.2.1 pc = .ok (.aload_n q, 1)) (hg : pr_get lo q.val = some .null) (k : pr_R d mi (pc + 1) lo (.null :: st) h v h') : pr_R d mi pc lo (st) h v h' :=
  pr_to k fun b p l e R s m args below meth c H locs cells slots ls Q D aC X hI hl kk => lv_aload_nN X.1 X.2.1 hd rfl (pr_get_at hl hg) kk
theorem pr_aloadN {i : Nat} (hd : decode mi.2.1 pc = .ok (.aload i, 2)) (hg : pr_get lo i = some .null) (k : pr_R d mi (pc + 2) lo (.null :: st) h v h') : pr_R d mi pc lo (st) h v h' :=
  pr_to k fun b p l e R s m args below meth c H locs cells slots ls Q D aC X hI hl kk => lv_aloadN X.1 X.2.1 hd (pr_get_at hl hg) kk
theorem pr_goto {off : Int} {tgt : Nat} (hd : decode mi.2.1 pc = .ok (.goto off, 3)) (ht : (pc : Int) + off = (tgt : Int)) (k : pr_R d mi tgt lo st h v h') : pr_R d mi pc lo st h v h' :=
  pr_to k fun b p l e R s m args below meth c H locs cells slots ls Q D aC X hI hl kk => lv_goto X.1 X.2.1 hd ht kk
theorem pr_if_eq {x : Int32} {off : Int} {tgt : Nat} (hd : decode mi.2.1 pc = .ok (.ifCond .eq off, 3)) (ht : (pc : Int) + off = (tgt : Int)) (kt : x = 0 → pr_R d mi tgt lo st h v h') (kf : ¬ (x = 0) → pr_R d mi (pc + 3) lo st h v h') : pr_R d mi pc lo (.int x :: st) h v h' := by
  by_cases hc : x = 0
  · exact pr_to (kt hc) fun b p l e R s m args below meth c H locs cells slots ls Q D aC X hI hl kk => lv_if_eq X.1 X.2.1 hd ht (fun _ => kk) (fun n => absurd hc n)
  · exact pr_to (kf hc) fun b p l e R s m args below meth c H locs cells slots ls Q D aC X hI hl kk => lv_if_eq X.1 X.2.1 hd ht (fun n => absurd n hc) (fun _ => kk)
theorem pr_icmp_eq {x y : Int32} {off : Int} {tgt : Nat} (hd : decode mi.2.1 pc = .ok (.if_icmp .eq off, 3)) (ht : (pc : Int) + off = (tgt : Int)) (kt : x = y → pr_R d mi tgt lo st h v h') (kf : ¬ (x = y) → pr_R d mi (pc + 3) lo st h v h') : pr_R d mi pc lo (.int y :: .int x :: st) h v h' := by
  by_cases hc : x = y
  · exact pr_to (kt hc) fun b p l e R s m args below meth c H locs cells slots ls Q D aC X hI hl kk => lv_icmp_eq X.1 X.2.1 hd ht (fun _ => kk) (fun n => absurd hc n)
  · exact pr_to (kf hc) fun b p l e R s m args below meth c H locs cells slots ls Q D aC X hI hl kk => lv_icmp_eq X.1 X.2.1 hd ht (fun n => absurd n hc) (fun _ => kk)
theorem pr_if_lt {x : Int32} {off : Int} {tgt : Nat} (hd : decode mi.2.1 pc = .ok (.ifCond .lt off, 3)) (ht : (pc : Int) + off = (tgt : Int)) (kt : x < 0 → pr_R d mi tgt lo st h v h') (kf : ¬ (x < 0) → pr_R d mi (pc + 3) lo st h v h') : pr_R d mi pc lo (.int x :: st) h v h' := by
  by_cases hc : x < 0
  · exact pr_to (kt hc) fun b p l e R s m args below meth c H locs cells slots ls Q D aC X hI hl kk => lv_if_lt X.1 X.2.1 hd ht (fun _ => kk) (fun n => absurd hc n)
  · exact pr_to (kf hc) fun b p l e R s m args below meth c H locs cells slots ls Q D aC X hI hl kk => lv_if_lt X.1 X.2.1 hd ht (fun n => absurd n hc) (fun _ => kk)
theorem pr_icmp_lt {x y : Int32} {off : Int} {tgt : Nat} (hd : decode mi.2.1 pc = .ok (.if_icmp .lt off, 3)) (ht : (pc : Int) + off = (tgt : Int)) (kt : x < y → pr_R d mi tgt lo st h v h') (kf : ¬ (x < y) → pr_R d mi (pc + 3) lo st h v h') : pr_R d mi pc lo (.int y :: .int x :: st) h v h' := by
  by_cases hc : x < y
  · exact pr_to (kt hc) fun b p l e R s m args below meth c H locs cells slots ls Q D aC X hI hl kk => lv_icmp_lt X.1 X.2.1 hd ht (fun _ => kk) (fun n => absurd hc n)
  · exact pr_to (kf hc) fun b p l e R s m args below meth c H locs cells slots ls Q D aC X hI hl kk => lv_icmp_lt X.1 X.2.1 hd ht (fun n => absurd n hc) (fun _ => kk)
theorem pr_if_ge {x : Int32} {off : Int} {tgt : Nat} (hd : decode mi.2.1 pc = .ok (.ifCond .ge off, 3)) (ht : (pc : Int) + off = (tgt : Int)) (kt : 0 ≤ x → pr_R d mi tgt lo st h v h') (kf : ¬ (0 ≤ x) → pr_R d mi (pc + 3) lo st h v h') : pr_R d mi pc lo (.int x :: st) h v h' := by
  by_cases hc : 0 ≤ x
  · exact pr_to (kt hc) fun b p l e R s m args below meth c H locs cells slots ls Q D aC X hI hl kk => lv_if_ge X.1 X.2.1 hd ht (fun _ => kk) (fun n => absurd hc n)
  · exact pr_to (kf hc) fun b p l e R s m args below meth c H locs cells slots ls Q D aC X hI hl kk => lv_if_ge X.1 X.2.1 hd ht (fun n => absurd n hc) (fun _ => kk)
theorem pr_icmp_ge {x y : Int32} {off : Int} {tgt : Nat} (hd : decode mi.2.1 pc = .ok (.if_icmp .ge off, 3)) (ht : (pc : Int) + off = (tgt : Int)) (kt : y ≤ x → pr_R d mi tgt lo st h v h') (kf : ¬ (y ≤ x) → pr_R d mi (pc + 3) lo st h v h') : pr_R d mi pc lo (.int y :: .int x :: st) h v h' := by
  by_cases hc : y ≤ x
  · exact pr_to (kt hc) fun b p l e R s m args below meth c H locs cells slots ls Q D aC X hI hl kk => lv_icmp_ge X.1 X.2.1 hd ht (fun _ => kk) (fun n => absurd hc n)
  · exact pr_to (kf hc) fun b p l e R s m args below meth c H locs cells slots ls Q D aC X hI hl kk => lv_icmp_ge X.1 X.2.1 hd ht (fun n => absurd n hc) (fun _ => kk)
theorem pr_if_gt {x : Int32} {off : Int} {tgt : Nat} (hd : decode mi.2.1 pc = .ok (.ifCond .gt off, 3)) (ht : (pc : Int) + off = (tgt : Int)) (kt : 0 < x → pr_R d mi tgt lo st h v h') (kf : ¬ (0 < x) → pr_R d mi (pc + 3) lo st h v h') : pr_R d mi pc lo (.int x :: st) h v h' := by
  by_cases hc : 0 < x
  · exact pr_to (kt hc) fun b p l e R s m args below meth c H locs cells slots ls Q D aC X hI hl kk => lv_if_gt X.1 X.2.1 hd ht (fun _ => kk) (fun n => absurd hc n)
  · exact pr_to (kf hc) fun b p l e R s m args below meth c H locs cells slots ls Q D aC X hI hl kk => lv_if_gt X.1 X.2.1 hd ht (fun n => absurd n hc) (fun _ => kk)
theorem pr_icmp_gt {x y : Int32} {off : Int} {tgt : Nat} (hd : decode mi.2.1 pc = .ok (.if_icmp .gt off, 3)) (ht : (pc : Int) + off = (tgt : Int)) (kt : y < x → pr_R d mi tgt lo st h v h') (kf : ¬ (y < x) → pr_R d mi (pc + 3) lo st h v h') : pr_R d mi pc lo (.int y :: .int x :: st) h v h' := by
  by_cases hc : y < x
  · exact pr_to (kt hc) fun b p l e R s m args below meth c H locs cells slots ls Q D aC X hI hl kk => lv_icmp_gt X.1 X.2.1 hd ht (fun _ => kk) (fun n => absurd hc n)
  · exact pr_to (kf hc) fun b p l e R s m args below meth c H locs cells slots ls Q D aC X hI hl kk => lv_icmp_gt X.1 X.2.1 hd ht (fun n => absurd n hc) (fun _ => kk)
theorem pr_if_le {x : Int32} {off : Int} {tgt : Nat} (hd : decode mi.2.1 pc = .ok (.ifCond .le off, 3)) (ht : (pc : Int) + off = (tgt : Int)) (kt : x ≤ 0 → pr_R d mi tgt lo st h v h') (kf : ¬ (x ≤ 0) → pr_R d mi (pc + 3) lo st h v h') : pr_R d mi pc lo (.int x :: st) h v h' := by
  by_cases hc : x ≤ 0
  · exact pr_to (kt hc) fun b p l e R s m args below meth c H locs cells slots ls Q D aC X hI hl kk => lv_if_le X.1 X.2.1 hd ht (fun _ => kk) (fun n => absurd hc n)
  · exact pr_to (kf hc) fun b p l e R s m args below meth c H locs cells slots ls Q D aC X hI hl kk => lv_if_le X.1 X.2.1 hd ht (fun n => absurd n hc) (fun _ => kk)
theorem pr_icmp_le {x y : Int32} {off : Int} {tgt : Nat} (hd : decode mi.2.1 pc = .ok (.if_icmp .le off, 3)) (ht : (pc : Int) + off = (tgt : Int)) (kt : x ≤ y → pr_R d mi tgt lo st h v h') (kf : ¬ (x ≤ y) → pr_R d mi (pc + 3) lo st h v h') : pr_R d mi pc lo (.int y :: .int x :: st) h v h' := by
  by_cases hc : x ≤ y
  · exact pr_to (kt hc) fun b p l e R s m args below meth c H locs cells slots ls Q D aC X hI hl kk => lv_icmp_le X.1 X.2.1 hd ht (fun _ => kk) (fun n => absurd hc n)
  · exact pr_to (kf hc) fun b p l e R s m args below meth c H locs cells slots ls Q D aC X hI hl kk => lv_icmp_le X.1 X.2.1 hd ht (fun n => absurd n hc) (fun _ => kk)
theorem pr_if_ne {x : Int32} {off : Int} {tgt : Nat} (hd : decode mi.2.1 pc = .ok (.ifCond .ne off, 3)) (ht : (pc : Int) + off = (tgt : Int)) (kt : ¬ x = 0 → pr_R d mi tgt lo st h v h') (kf : x = 0 → pr_R d mi (pc + 3) lo st h v h') : pr_R d mi pc lo (.int x :: st) h v h' := by
  by_cases hc : x = 0
  · exact pr_to (kf hc) fun b p l e R s m args below meth c H locs cells slots ls Q D aC X hI hl kk => lv_if_ne X.1 X.2.1 hd ht (fun n => absurd hc n) (fun _ => kk)
  · exact pr_to (kt hc) fun b p l e R s m args below meth c H locs cells slots ls Q D aC X hI hl kk => lv_if_ne X.1 X.2.1 hd ht (fun _ => kk) (fun n => absurd n hc)
theorem pr_icmp_ne {x y : Int32} {off : Int} {tgt : Nat} (hd : decode mi.2.1 pc = .ok (.if_icmp .ne off, 3)) (ht : (pc : Int) + off = (tgt : Int)) (kt : ¬ x = y → pr_R d mi tgt lo st h v h') (kf : x = y → pr_R d mi (pc + 3) lo st h v h') : pr_R d mi pc lo (.int y :: .int x :: st) h v h' := by
  by_cases hc : x = y
  · exact pr_to (kf hc) fun b p l e R s m args below meth c H locs cells slots ls Q D aC X hI hl kk => lv_icmp_ne X.1 X.2.1 hd ht (fun n => absurd hc n) (fun _ => kk)
  · exact pr_to (kt hc) fun b p l e R s m args below meth c H locs cells slots ls Q D aC X hI hl kk => lv_icmp_ne X.1 X.2.1 hd ht (fun _ => kk) (fun n => absurd n hc)
theorem pr_istore_n {q : Fin 4} {x : Int32} (hd : decode mi.2.1 pc = .ok (.istore_n q, 1)) (hn : q.val < mi.2.2.1) (k : pr_R d mi (pc + 1) (pr_put1 lo q.val (.int x)) st h v h') : pr_R d mi pc lo (.int x :: st) h v h' :=
  pr_toL k fun b p l e R s m args below meth c H locs cells slots ls Q D aC X hl kk => lv_istore_n X.1 X.2.1 hd rfl hl hn (pr_put1_eq b lo q.val (.int x)) kk
theorem pr_istore {i : Nat} {x : Int32} (hd : decode mi.2.1 pc = .ok (.istore i, 2)) (hn : i < mi.2.2.1) (k : pr_R d mi (pc + 2) (pr_put1 lo i (.int x)) st h v h') : pr_R d mi pc lo (.int x :: st) h v h' :=
  pr_toL k fun b p l e R s m args below meth c H locs cells slots ls Q D aC X hl kk => lv_istore X.1 X.2.1 hd hl hn (pr_put1_eq b lo i (.int x)) kk
theorem pr_lstore_n {q : Fin 4} {x : Int64} (hd : decode mi.2.1 pc = .ok (.lstore_n q, 1)) (hn : q.val + 1 < mi.2.2.1) (k : pr_R d mi (pc + 1) (pr_put2 lo q.val (.long x)) st h v h') : pr_R d mi pc lo (.long x :: st) h v h' :=
  pr_toL k fun b p l e R s m args below meth c H locs cells slots ls Q D aC X hl kk => lv_lstore_n X.1 X.2.1 hd rfl hl hn (pr_put2_eq b lo q.val (.long x)) kk
theorem pr_lstore {i : Nat} {x : Int64} (hd : decode mi.2.1 pc = .ok (.lstore i, 2)) (hn : i + 1 < mi.2.2.1) (k : pr_R d mi (pc + 2) (pr_put2 lo i (.long x)) st h v h') : pr_R d mi pc lo (.long x :: st) h v h' :=
  pr_toL k fun b p l e R s m args below meth c H locs cells slots ls Q D aC X hl kk => lv_lstore X.1 X.2.1 hd hl hn (pr_put2_eq b lo i (.long x)) kk
theorem pr_astore_n {q : Fin 4} {x : Nat} (hd : decode mi.2.1 pc = .ok (.astore_n q, 1)) (hn : q.val < mi.2.2.1) (k : pr_R d mi (pc + 1) (pr_put1 lo q.val (.ref x)) st h v h') : pr_R d mi pc lo (.ref x :: st) h v h' :=
  pr_toL k fun b p l e R s m args below meth c H locs cells slots ls Q D aC X hl kk => lv_astore_n X.1 X.2.1 hd rfl hl hn (pr_put1_eq b lo q.val (.ref x)) kk
theorem pr_astore {i : Nat} {x : Nat} (hd : decode mi.2.1 pc = .ok (.astore i, 2)) (hn : i < mi.2.2.1) (k : pr_R d mi (pc + 2) (pr_put1 lo i (.ref x)) st h v h') : pr_R d mi pc lo (.ref x :: st) h v h' :=
  pr_toL k fun b p l e R s m args below meth c H locs cells slots ls Q D aC X hl kk => lv_astore X.1 X.2.1 hd hl hn (pr_put1_eq b lo i (.ref x)) kk
end PRW
