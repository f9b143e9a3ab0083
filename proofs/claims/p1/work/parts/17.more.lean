/-! MORE ROWS: longs, arrays of other kinds, texts, arraycopy, a switch -/
section PRM
variable {d : Nat} {mi : pr_M} {pc pc1 : Nat} {lo lo1 : List (Nat × Value)} {st st1 : List Value} {h h1 : pr_H} {v : Option Value} {h' : pr_H}
/-- an instruction that changes pc and stack alone, with the frame rule at hand -/
theorem pr_toS (k : pr_R d mi pc1 lo st1 h v h') (hs : ∀ (b : pr_B) (p : Program) (l : Launch) (e : Env) (R : Room) (s : State) (m : MethodId) (args : Array Value) (below : List Frame) (meth : Method) (c : Code) (H : Heap) (locs : List Loc) (cells slots : Nat) (ls : Array Slot) (Q : State → Prop) (D : va_G) (aC : Nat → ClassId),
    pr_X d mi D aC b p R s m args meth c → pr_I b D aC h H → va_S (pr_A b) s.heap H locs → lv_has ls mi.2.2.1 (pr_lo b lo) → W p l e R s m args below meth c H locs cells slots Q (F0 m pc1 ls (st1.map (pr_v b))) → W p l e R s m args below meth c H locs cells slots Q (F0 m pc ls (st.map (pr_v b)))) : pr_R d mi pc lo st h v h' := by
  refine ⟨k.1, k.2.1, fun D aC b p l e R s m args below meth c X H locs cells slots ls hI hS hl h1 h2 => ?_⟩
  exact hs b p l e R s m args below meth c H locs cells slots ls _ D aC X hI hS hl (k.2.2 D aC b p l e R s m args below meth c X H locs cells slots ls hI hS hl h1 h2)
theorem pr_lconst {n : Fin 2} {x : Int64} (hd : decode mi.2.1 pc = .ok (.lconst n, 1)) (hx : Int64.ofNat (n : Nat) = x) (k : pr_R d mi (pc + 1) lo (.long x :: st) h v h') : pr_R d mi pc lo st h v h' :=
  pr_to k fun b p l e R s m args below meth c H locs cells slots ls Q D aC X hI hl kk => lv_lconst X.1 X.2.1 hd hx kk
theorem pr_i2c {x : Int32} (hd : decode mi.2.1 pc = .ok (.i2c, 1)) (k : pr_R d mi (pc + 1) lo (.int (x.toUInt32 % 65536).toInt32 :: st) h v h') : pr_R d mi pc lo (.int x :: st) h v h' :=
  pr_to k fun b p l e R s m args below meth c H locs cells slots ls Q D aC X hI hl kk => lv_i2c X.1 X.2.1 hd rfl kk
theorem pr_i2b {x : Int32} (hd : decode mi.2.1 pc = .ok (.i2b, 1)) (k : pr_R d mi (pc + 1) lo (.int x.toInt8.toInt32 :: st) h v h') : pr_R d mi pc lo (.int x :: st) h v h' :=
  pr_to k fun b p l e R s m args below meth c H locs cells slots ls Q D aC X hI hl kk => lv_i2b X.1 X.2.1 hd rfl kk
theorem pr_last {k n : Nat} {f : Nat → Int64} {i : Int32} {x : Int64} (hd : decode mi.2.1 pc = .ok (.lastore, 1)) (ho : h[k]? = some (.inl (1, n, .inr (.inl f)))) (hin : vp_in i n) (kk : pr_R d mi (pc + 1) lo st (h.set k (.inl (1, n, .inr (.inl (vp_updL f i.toNatClampNeg x))))) v h') : pr_R d mi pc lo (.long x :: .int i :: .ref k :: st) h v h' := by
  refine pr_toH kk List.length_set (pr_sz_set ho rfl) ?_
  intro b p l e R s m args below meth c H locs cells slots ls Q D aC X hI hS hlv go
  refine W.last X.1 X.2.1 (hI.1 k _ ho rfl) ((X.K.2 1 _ (pr_tl_at rfl)).1 n (fun j => .long (f j))) (fun q => by cases q) (by show ¬ (i < 0 ∨ (arrV _ _ _).slots.size ≤ _); rw [arrV_size]; exact hin) rfl rfl hd fun H1 e1 z oq => ?_
  refine go H1 _ (hI.set ho ?_ z oq) (hS.put z oq (Nat.le_add_right _ _))
  show H1[b.1 + k]? = some (vp_cell (aC 1) (n, .inr (.inl (vp_updL f i.toNatClampNeg x))))
  rw [e1]
  show some ((vp_cell (aC 1) (n, .inr (.inl f))).setSlot _ _) = _
  rw [vp_cell_l, vp_cell_l, arrV_store]
  congr 2
  funext q
  by_cases hq : q = i.toNatClampNeg
  · subst hq
    simp [updV, vp_updL]
  · simp [updV, vp_updL, hq]
theorem pr_zast {k n : Nat} {f : Nat → Int32} {i : Int32} {x : Int32} (hd : decode mi.2.1 pc = .ok (.bastore, 1)) (ho : h[k]? = some (.inl (2, n, .inl f))) (hin : vp_in i n) (kk : pr_R d mi (pc + 1) lo st (h.set k (.inl (2, n, .inl (upd f i.toNatClampNeg (vp_nar .boolean x))))) v h') : pr_R d mi pc lo (.int x :: .int i :: .ref k :: st) h v h' := by
  refine pr_toH kk List.length_set (pr_sz_set ho rfl) ?_
  intro b p l e R s m args below meth c H locs cells slots ls Q D aC X hI hS hlv go
  refine W.zast X.1 X.2.1 (hI.1 k _ ho rfl) ((X.K.2 2 _ (pr_tl_at rfl)).1 n (fun j => .int (f j))) (fun q => by cases q) (by show ¬ (i < 0 ∨ (arrV _ _ _).slots.size ≤ _); rw [arrV_size]; exact hin) rfl rfl hd fun H1 e1 z oq => ?_
  refine go H1 _ (hI.set ho ?_ z oq) (hS.put z oq (Nat.le_add_right _ _))
  show H1[b.1 + k]? = some (vp_cell (aC 2) (n, .inl (upd f i.toNatClampNeg (vp_nar .boolean x))))
  rw [e1]
  show some ((vp_cell (aC 2) (n, .inl f)).setSlot _ _) = _
  rw [vp_cell_i, vp_cell_i, arrV_store]
  congr 2
  funext q
  by_cases hq : q = i.toNatClampNeg
  · subst hq
    simp [updV, upd, vp_nar]
    try rfl
  · simp [updV, upd, hq]
theorem pr_bast {k n : Nat} {f : Nat → Int32} {i : Int32} {x : Int32} (hd : decode mi.2.1 pc = .ok (.bastore, 1)) (ho : h[k]? = some (.inl (3, n, .inl f))) (hin : vp_in i n) (kk : pr_R d mi (pc + 1) lo st (h.set k (.inl (3, n, .inl (upd f i.toNatClampNeg (vp_nar .byte x))))) v h') : pr_R d mi pc lo (.int x :: .int i :: .ref k :: st) h v h' := by
  refine pr_toH kk List.length_set (pr_sz_set ho rfl) ?_
  intro b p l e R s m args below meth c H locs cells slots ls Q D aC X hI hS hlv go
  refine W.bast X.1 X.2.1 (hI.1 k _ ho rfl) ((X.K.2 3 _ (pr_tl_at rfl)).1 n (fun j => .int (f j))) (fun q => by cases q) (by show ¬ (i < 0 ∨ (arrV _ _ _).slots.size ≤ _); rw [arrV_size]; exact hin) rfl rfl hd fun H1 e1 z oq => ?_
  refine go H1 _ (hI.set ho ?_ z oq) (hS.put z oq (Nat.le_add_right _ _))
  show H1[b.1 + k]? = some (vp_cell (aC 3) (n, .inl (upd f i.toNatClampNeg (vp_nar .byte x))))
  rw [e1]
  show some ((vp_cell (aC 3) (n, .inl f)).setSlot _ _) = _
  rw [vp_cell_i, vp_cell_i, arrV_store]
  congr 2
  funext q
  by_cases hq : q = i.toNatClampNeg
  · subst hq
    simp [updV, upd, vp_nar]
    try rfl
  · simp [updV, upd, hq]
theorem pr_newG {t N : Nat} {n : Int32} {atype : ArrayType} {a : vp_A} (hd : decode mi.2.1 pc = .ok (.newarray atype, 2)) (ht : pr_tys[t]? = some (newarray.typeOf atype)) (hra : ∀ U cA, va_RA U cA (newarray.typeOf atype) = (U.vm.findClass ("[" ++ (newarray.typeOf atype).toString) = some cA)) (ha : a.1 = N) (hca : ∀ b cA, vp_cell cA (pr_a b a) = arrV cA N (fun _ => defaultValue (newarray.typeOf atype))) (hw : Cond.arrayClass (newarray.typeOf atype) ∈ pr_G) (hn : ¬ n < 0) (hN : n.toNatClampNeg = N) (hb : N * componentBytes (newarray.typeOf atype) ≤ 536870912) (kk : pr_R d mi (pc + 2) lo (.ref h.length :: st) (h ++ [.inl (t, a)]) v h') : pr_R d mi pc lo (.int n :: st) h v h' := by
  refine pr_toN kk ?_
  intro b p l e R s m args below meth c H locs cells slots ls Q D aC X hI hS hlv hc1 hc2 go
  have hsz : pr_s (.inl (t, a)) = N := ha
  rw [hsz] at hc2 go
  refine va_newaK (N := N) X.1 X.2.1 (atype := atype) (X.ts _ hw) rfl hd rfl hn hN hb hc1 hc2 hI.2 fun H1 cA e1 z1 o1 hAr hNm => ?_
  have hcA : cA = aC t := by
    have h1 := (X.K.2 t _ (pr_tl_at ht)).2
    rw [hra] at h1
    exact Option.some.inj (hNm.symm.trans h1)
  subst hcA
  refine go H1 (hI.push (fun _ => ?_) (by rw [z1]) (fun q hq => o1 q hq)) ⟨Nat.le_trans hS.1 (by rw [z1, hI.2]; omega), fun x q1 q2 => (o1 x (by have := hS.1; have := hI.2; omega)).trans (hS.2.1 x q1 q2), hS.2.2⟩
  show H1[b.1 + h.length]? = some (vp_cell (aC t) (pr_a b a))
  rw [hca]
  exact e1
theorem pr_ldcS {idx i : Nat} {tx : String} (hd : decode mi.2.1 pc = .ok (.ldc idx, 2)) (hq : (mi.1.cls, idx, tx, i) ∈ pz_lits) (hi : i ≠ 50) (kk : pr_R d mi (pc + 2) lo (.retAddr i :: st) h v h') : pr_R d mi pc lo st h v h' :=
  pr_toS kk fun b p l e R s m args below meth c H locs cells slots ls Q D aC X hI hS hl kW => by
    have hm : pr_v b (.retAddr i) = .ref (b.2.1 i) := if_neg hi
    rw [List.map_cons, hm] at kW
    exact va_ldcS X.1 X.2.1 X.own (X.Kz.2.2.2.2.1 _ hq) hd kW
theorem pr_gsC {idx : Nat} (hd : decode mi.2.1 pc = .ok (.getstatic idx, 3)) (hlink : Cond.fieldLink mi.1.cls idx "java/lang/String" "COMPACT_STRINGS" "Z" ∈ pr_G) (kk : pr_R d mi (pc + 3) lo (.int 1 :: st) h v h') : pr_R d mi pc lo st h v h' :=
  pr_toS kk fun b p l e R s m args below meth c H locs cells slots ls Q D aC X hI hS hl kW =>
    va_gets X.1 X.2.1 X.Kz.2.2.1 hS X.own (X.ts _ hlink) (fun _ h9 => h9) hd kW
theorem pr_gsF {idx : Nat} (hd : decode mi.2.1 pc = .ok (.getstatic idx, 3)) (hlink : Cond.fieldLink mi.1.cls idx "jdk/internal/util/Preconditions" "SIOOBE_FORMATTER" "Ljava/util/function/BiFunction;" ∈ pr_G) (kk : pr_R d mi (pc + 3) lo (.retAddr 50 :: st) h v h') : pr_R d mi pc lo st h v h' :=
  pr_toS kk fun b p l e R s m args below meth c H locs cells slots ls Q D aC X hI hS hl kW =>
    va_gets X.1 X.2.1 X.Kz.2.2.2.1 hS X.own (X.ts _ hlink) (fun _ h9 => h9) hd kW
theorem pr_getV {idx i : Nat} (hd : decode mi.2.1 pc = .ok (.getfield idx, 3)) (hi : i < 4) (hlink : Cond.fieldLink mi.1.cls idx "java/lang/String" "value" "[B" ∈ pr_G) (kk : pr_R d mi (pc + 3) lo (.retAddr (100 + i) :: st) h v h') : pr_R d mi pc lo (.retAddr i :: st) h v h' :=
  pr_toS kk fun b p l e R s m args below meth c H locs cells slots ls Q D aC X hI hS hl kW => by
    have h1 : pr_v b (.retAddr i) = .ref (b.2.1 i) := if_neg (by omega)
    have h2 : pr_v b (.retAddr (100 + i)) = .ref (b.2.1 (100 + i)) := if_neg (by omega)
    rw [List.map_cons, h2] at kW
    rw [List.map_cons, h1]
    exact vk_getf X.1 X.2.1 (X.Kz.2.1.1 i hi).2.2.1 hS X.own (X.ts _ hlink) (fun _ h9 => h9) hd kW
theorem pr_getCo {idx i : Nat} (hd : decode mi.2.1 pc = .ok (.getfield idx, 3)) (hi : i < 4) (hlink : Cond.fieldLink mi.1.cls idx "java/lang/String" "coder" "B" ∈ pr_G) (kk : pr_R d mi (pc + 3) lo (.int 0 :: st) h v h') : pr_R d mi pc lo (.retAddr i :: st) h v h' :=
  pr_toS kk fun b p l e R s m args below meth c H locs cells slots ls Q D aC X hI hS hl kW => by
    have h1 : pr_v b (.retAddr i) = .ref (b.2.1 i) := if_neg (by omega)
    rw [List.map_cons, h1]
    exact vk_getf X.1 X.2.1 (X.Kz.2.1.1 i hi).2.1 hS X.own (X.ts _ hlink) (fun _ h9 => h9) hd kW
theorem pr_alenS {i : Nat} (hd : decode mi.2.1 pc = .ok (.arraylength, 1)) (hi : i < 4) (kk : pr_R d mi (pc + 1) lo (.int (Int32.ofNat (pz_len.getD i 0)) :: st) h v h') : pr_R d mi pc lo (.retAddr (100 + i) :: st) h v h' :=
  pr_toS kk fun b p l e R s m args below meth c H locs cells slots ls Q D aC X hI hS hl kW => by
    have h2 : pr_v b (.retAddr (100 + i)) = .ref (b.2.1 (100 + i)) := if_neg (by omega)
    rw [List.map_cons, h2]
    exact va_tlen X.1 X.2.1 (X.Kz.2.1.1 i hi).2.2.2 hS rfl hd kW
theorem pr_baldS {i : Nat} {j : Int32} (hd : decode mi.2.1 pc = .ok (.baload, 1)) (hi : i < 4) (hj : vp_in j (pz_len.getD i 0)) (kk : pr_R d mi (pc + 1) lo (.int ((pz_byt.getD i []).getD j.toNatClampNeg 0) :: st) h v h') : pr_R d mi pc lo (.int j :: .retAddr (100 + i) :: st) h v h' :=
  pr_toS kk fun b p l e R s m args below meth c H locs cells slots ls Q D aC X hI hS hl kW => by
    have h2 : pr_v b (.retAddr (100 + i)) = .ref (b.2.1 (100 + i)) := if_neg (by omega)
    rw [List.map_cons, List.map_cons, h2]
    exact va_tb X.1 X.2.1 (X.Kz.2.1.1 i hi).2.2.2 hS hj rfl hd kW
/-- a mark is null or a reference: it is loaded as such -/
theorem pr_aloadM_n {q : Fin 4} {i : Nat} (hd : decode mi.2.1 pc = .ok (.aload_n q, 1)) (hi : i ≠ 50) (hg : pr_get lo q.val = some (.retAddr i)) (kk : pr_R d mi (pc + 1) lo (.retAddr i :: st) h v h') : pr_R d mi pc lo st h v h' :=
  pr_to kk fun b p l e R s m args below meth c H locs cells slots ls Q D aC X hI hl kW => by
    have h1 : pr_v b (.retAddr i) = .ref (b.2.1 i) := if_neg hi
    have h2 := pr_get_at hl hg
    rw [h1] at h2
    rw [List.map_cons, h1] at kW
    exact lv_aload_n X.1 X.2.1 hd rfl h2 kW
/-- a call on a text -/
theorem pr_callT {idx i n : Nat} {m2 : pr_M} {as rest : List Value} {v1 : Option Value} {h1 : pr_H} (hd : decode mi.2.1 pc = .ok (.invokevirtual idx, 3)) (hc : pr_cal m2 n) (hl : Cond.methodLink mi.1.cls idx m2.1 ∈ pr_G) (hi : Cond.instanceMethod m2.1 ∈ pr_G) (hse : Cond.selects m2.1.cls m2.1 m2.1 ∈ pr_G) (hn : as.length = n) (hS4 : m2.1.cls = "java/lang/String") (hi4 : i < 4)
    (hst : (rest.map fun v => v.category).sum ≤ 8) (hM : pr_Met d m2 (.retAddr i :: as) h v1 h1) (kk : pr_R (d + 1) mi (pc + 3) lo (v1.toList ++ rest) h1 v h') : pr_R (d + 1) mi pc lo (as.reverse ++ .retAddr i :: rest) h v h' := by
  obtain ⟨hok, hini, hy, hmx⟩ := hc
  obtain ⟨m1, m2', m3⟩ := hM
  obtain ⟨k1, k2, k3⟩ := kk
  refine ⟨Nat.le_trans m1 k1, Nat.le_trans m2' k2, fun D aC b p l e R s m args below meth c X H locs cells slots ls hI hS hlv e1 e2 => ?_⟩
  have a1 : cells + (h'.length - h.length) = cells + (h1.length - h.length) + (h'.length - h1.length) := by omega
  have a2 : slots + (pr_sz h' - pr_sz h) = slots + (pr_sz h1 - pr_sz h) + (pr_sz h' - pr_sz h1) := by omega
  rw [a1] at e1 ⊢
  rw [a2] at e2 ⊢
  have hr := X.fr
  have hmk : pr_v b (.retAddr i) = .ref (b.2.1 i) := if_neg (by omega)
  have m4 := m3 l D aC b
  rw [List.map_cons, hmk] at m4
  refine pr_cont (rest := rest) (va_runV (b := b.2.1 i) (As := as.map (pr_v b)) (rest := rest.map (pr_v b)) (Ts := pr_G) (nL := mi.2.2.1) ⟨X.1, X.2.1, X.2.2.2.1, X.own, X.ts⟩ m4 ⟨callB_of n X.ts (pr_good hok (fun _ h9 => h9)) rfl rfl rfl (X.ts _ hini) (X.ts _ hl) hy ⟨by show d + 1 ≤ _; omega, by show 8 + (m2.2.2.1 + 11) + d * 80 ≤ _; omega⟩, X.ts _ hi, X.ts _ hse⟩
    ⟨pr_blind, by rw [hS4]; exact vk_recv X.Kz.2.1 hi4 hS, fun U hU hW => ⟨rfl, by rw [hU]; exact hI, X.Kz.to hS hU hW⟩⟩ rfl (by rw [List.length_map]; exact hn) hlv.1 (by simp [hmk]) (lv_room (pr_catS hst)) hd ⟨by omega, by omega⟩) hS ?_
  exact fun H1 locs1 hI1 hS1 => k3 D aC b p l e R s m args below meth c X H1 locs1 _ _ ls hI1 hS1 hlv e1 e2
end PRM
