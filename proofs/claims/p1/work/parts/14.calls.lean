section PRC
variable {d : Nat} {mi : pr_M} {pc : Nat} {lo : List (Nat × Value)} {st : List Value} {h : pr_H} {v : Option Value} {h' : pr_H}
theorem pr_ireturn {x : Int32} (hd : decode mi.2.1 pc = .ok (.ireturn, 1)) (hr : mi.2.2.2 = some .int) : pr_R d mi pc lo [.int x] h (some (.int x)) h := by
  refine ⟨Nat.le_refl _, Nat.le_refl _, fun D aC b p l e R s m args below meth c X H locs cells slots ls hI hS hl e1 e2 => ?_⟩
  rw [Nat.sub_self, Nat.sub_self, Nat.add_zero, Nat.add_zero]
  exact W.iret (v := x) X.1 X.2.1 (X.2.2.1.trans hr) (fun t ht _ => ⟨rfl, by rw [ht]; exact hI, hS.F ht⟩) hS.2.2 hd X.lk
theorem pr_zreturn {x : Int32} {ty : FieldType} (hd : decode mi.2.1 pc = .ok (.ireturn, 1)) (hr : mi.2.2.2 = some ty) (hn : narrow ty (.int x) = .int x) : pr_R d mi pc lo [.int x] h (some (.int x)) h := by
  refine ⟨Nat.le_refl _, Nat.le_refl _, fun D aC b p l e R s m args below meth c X H locs cells slots ls hI hS hl e1 e2 => ?_⟩
  rw [Nat.sub_self, Nat.sub_self, Nat.add_zero, Nat.add_zero]
  exact W.zret (v := x) X.1 X.2.1 (X.2.2.1.trans hr) hn (fun t ht _ => ⟨rfl, by rw [ht]; exact hI, hS.F ht⟩) hS.2.2 hd X.lk
theorem pr_lreturn {x : Int64} (hd : decode mi.2.1 pc = .ok (.lreturn, 1)) (hr : mi.2.2.2 = some .long) : pr_R d mi pc lo [.long x] h (some (.long x)) h := by
  refine ⟨Nat.le_refl _, Nat.le_refl _, fun D aC b p l e R s m args below meth c X H locs cells slots ls hI hS hl e1 e2 => ?_⟩
  rw [Nat.sub_self, Nat.sub_self, Nat.add_zero, Nat.add_zero]
  exact W.lret (v := x) X.1 X.2.1 (X.2.2.1.trans hr) (fun t ht _ => ⟨rfl, by rw [ht]; exact hI, hS.F ht⟩) hS.2.2 hd X.lk
theorem pr_return (hd : decode mi.2.1 pc = .ok (.return_, 1)) (hr : mi.2.2.2 = none) : pr_R d mi pc lo [] h none h := by
  refine ⟨Nat.le_refl _, Nat.le_refl _, fun D aC b p l e R s m args below meth c X H locs cells slots ls hI hS hl e1 e2 => ?_⟩
  rw [Nat.sub_self, Nat.sub_self, Nat.add_zero, Nat.add_zero]
  exact W.vret X.1 X.2.1 (X.2.2.1.trans hr) (fun t ht _ => ⟨rfl, by rw [ht]; exact hI, hS.F ht⟩) hS.2.2 hd X.lk
theorem pr_areturn {k : Nat} {rt : FieldType} (hd : decode mi.2.1 pc = .ok (.areturn, 1)) (hr : mi.2.2.2 = some rt) (hrt : (∃ n, rt = .object n) ∨ ∃ t, rt = .array t) : pr_R d mi pc lo [.ref k] h (some (.ref k)) h := by
  refine ⟨Nat.le_refl _, Nat.le_refl _, fun D aC b p l e R s m args below meth c X H locs cells slots ls hI hS hl e1 e2 => ?_⟩
  rw [Nat.sub_self, Nat.sub_self, Nat.add_zero, Nat.add_zero]
  exact W.aret (v := .ref (b.1 + k)) X.1 X.2.1 (X.2.2.1.trans hr) hrt (Or.inr ⟨_, rfl⟩) (fun t ht _ => ⟨rfl, by rw [ht]; exact hI, hS.F ht⟩) hS.2.2 hd X.lk
/-- behind a call -/
theorem pr_cont {p : Program} {l : Launch} {e : Env} {R : Room} {s : State} {m : MethodId} {args a : Array Value} {below : List Frame} {meth : Method} {c : Code} {H : Heap} {locs : List Loc} {cells slots mc ms : Nat} {b : pr_B} {ls : Array Slot} {Q : State → Prop} {D : va_G} {aC : Nat → ClassId} {v1 : Option Value} {h1 : pr_H} {st0 rest : List Value}
    (run : va_Run p l e R s m args below meth c H locs cells slots mc ms (F0 m pc ls st0) (rest.map (pr_v b)) (pr_Q b D aC v1 h1 a) (pr_A b)) (hS : va_S (pr_A b) s.heap H locs)
    (kk : ∀ (H1 : Heap) (locs1 : List Loc), pr_I b D aC h1 H1 → va_S (pr_A b) s.heap H1 locs1 → W p l e R s m args below meth c H1 locs1 (cells + mc) (slots + ms) Q (F0 m (pc + 3) ls ((v1.toList ++ rest).map (pr_v b)))) : W p l e R s m args below meth c H locs cells slots Q (F0 m pc ls st0) := by
  intro T hT X
  obtain ⟨w, st₀, t, T', L, h0, X', hL, e1, e2, ⟨hv, hI1, hz, hk⟩, st⟩ := run T hT X
  have hw : w = v1.map (pr_v b) := Outcome.returned.inj hv
  subst hw
  rw [h0] at hz hk
  obtain ⟨t2, a1, b1⟩ := kk T'.heap (locs ++ L) (by rw [e1]; exact hI1) ⟨Nat.le_trans hS.1 (by rw [e1]; exact hz), fun q q1 q2 => by rw [e1, hk q (Nat.lt_of_lt_of_le q1 hS.1) q2]; exact hS.2.1 q q1 q2, fun q hq => by
      rcases List.mem_append.mp hq with h | h
      · exact hS.2.2 q h
      · exact hL q h⟩ T' rfl X'
  refine ⟨t2, st t2 ?_, b1⟩
  cases v1 with
  | none => exact a1
  | some x => exact a1
theorem pr_blind {b : pr_B} {D : va_G} {aC : Nat → ClassId} {as : List Value} : FrameBlind (va_Pc as (fun U => pr_I b D aC h U.heap ∧ pr_K b D aC U)) := fun a U g mk q => by
  obtain ⟨q0, q1, q2⟩ := q
  exact ⟨q0, q1, q2.calling⟩
theorem pr_catS {b : pr_B} {rest : List Value} (hst : (rest.map fun v => v.category).sum ≤ 8) : ((rest.map (pr_v b)).map fun v => v.category).sum ≤ 8 := by
  rw [List.map_map]
  simpa only [Function.comp_def, pr_v_cat] using hst
/-- the callee's description -/
abbrev pr_cal (m2 : pr_M) (n : Nat) : Prop := pr_ok m2 ∧ Cond.initialized m2.1.cls ∈ pr_G ∧ (m2.1.cls ≠ "java/lang/invoke/MethodHandle" ∧ m2.1.cls ≠ "java/lang/invoke/VarHandle" ∧ (parseMethodDescriptor m2.1.desc).map (fun d => d.parameters.length) = some n) ∧ m2.2.2.1 ≤ 61
theorem pr_callV {idx ci k n N : Nat} {m2 : pr_M} {T : u_T} {fs as rest : List Value} {v1 : Option Value} {h1 : pr_H} (hd : decode mi.2.1 pc = .ok (.invokevirtual idx, 3)) (hc : pr_cal m2 n) (hl : Cond.methodLink mi.1.cls idx m2.1 ∈ pr_G) (hi : Cond.instanceMethod m2.1 ∈ pr_G) (hse : Cond.selects m2.1.cls m2.1 m2.1 ∈ pr_G) (hn : as.length = n)
    (hcl : pr_cl[ci]? = some (m2.1.cls, T, N)) (ho : h[k]? = some (.inr (ci, fs))) (hst : (rest.map fun v => v.category).sum ≤ 8) (hM : pr_Met d m2 (.ref k :: as) h v1 h1) (kk : pr_R (d + 1) mi (pc + 3) lo (v1.toList ++ rest) h1 v h') : pr_R (d + 1) mi pc lo (as.reverse ++ .ref k :: rest) h v h' := by
  obtain ⟨hok, hini, hy, hmx⟩ := hc
  obtain ⟨m1, m2', m3⟩ := hM
  obtain ⟨k1, k2, k3⟩ := kk
  refine ⟨Nat.le_trans m1 k1, Nat.le_trans m2' k2, fun D aC b p l e R s m args below meth c X H locs cells slots ls hI hS hlv e1 e2 => ?_⟩
  have a1 : cells + (h'.length - h.length) = cells + (h1.length - h.length) + (h'.length - h1.length) := by omega
  have a2 : slots + (pr_sz h' - pr_sz h) = slots + (pr_sz h1 - pr_sz h) + (pr_sz h' - pr_sz h1) := by omega
  rw [a1] at e1 ⊢
  rw [a2] at e2 ⊢
  have hr := X.fr
  refine pr_cont (rest := rest) (va_runV (As := as.map (pr_v b)) (rest := rest.map (pr_v b)) (Ts := pr_G) (nL := mi.2.2.1) ⟨X.1, X.2.1, X.2.2.2.1, X.own, X.ts⟩ (m3 l D aC b) ⟨callB_of n X.ts (pr_good hok (fun _ h9 => h9)) rfl rfl rfl (X.ts _ hini) (X.ts _ hl) hy ⟨by show d + 1 ≤ _; omega, by show 8 + (m2.2.2.1 + 11) + d * 80 ≤ _; omega⟩, X.ts _ hi, X.ts _ hse⟩
    ⟨pr_blind, va_recv X.K (hI.p ho (pr_j_cl hcl)) hcl (q0 := 0) rfl, fun U hU hW => ⟨rfl, by rw [hU]; exact hI, X.Kz.to hS hU hW⟩⟩ rfl (by rw [List.length_map]; exact hn) hlv.1 (by simp [pr_v]) (lv_room (pr_catS hst)) hd ⟨by omega, by omega⟩) hS ?_
  exact fun H1 locs1 hI1 hS1 => k3 D aC b p l e R s m args below meth c X H1 locs1 _ _ ls hI1 hS1 hlv e1 e2
theorem pr_callVN {idx ci k n N : Nat} {host : String} {m2 : pr_M} {T : u_T} {fs as rest : List Value} {v1 : Option Value} {h1 : pr_H} (hd : decode mi.2.1 pc = .ok (.invokevirtual idx, 3)) (hc : pr_cal m2 n) (hl : (mi.1.cls, idx, m2.1, host) ∈ pz_nm) (hi : Cond.instanceMethod m2.1 ∈ pr_G) (hse : Cond.selects m2.1.cls m2.1 m2.1 ∈ pr_G) (hn : as.length = n)
    (hcl : pr_cl[ci]? = some (m2.1.cls, T, N)) (ho : h[k]? = some (.inr (ci, fs))) (hst : (rest.map fun v => v.category).sum ≤ 8) (hM : pr_Met d m2 (.ref k :: as) h v1 h1) (kk : pr_R (d + 1) mi (pc + 3) lo (v1.toList ++ rest) h1 v h') : pr_R (d + 1) mi pc lo (as.reverse ++ .ref k :: rest) h v h' := by
  obtain ⟨hok, hini, hy, hmx⟩ := hc
  obtain ⟨m1, m2', m3⟩ := hM
  obtain ⟨k1, k2, k3⟩ := kk
  refine ⟨Nat.le_trans m1 k1, Nat.le_trans m2' k2, fun D aC b p l e R s m args below meth c X H locs cells slots ls hI hS hlv e1 e2 => ?_⟩
  have a1 : cells + (h'.length - h.length) = cells + (h1.length - h.length) + (h'.length - h1.length) := by omega
  have a2 : slots + (pr_sz h' - pr_sz h) = slots + (pr_sz h1 - pr_sz h) + (pr_sz h' - pr_sz h1) := by omega
  rw [a1] at e1 ⊢
  rw [a2] at e2 ⊢
  have hr := X.fr
  refine pr_cont (rest := rest) (va_runVN (As := as.map (pr_v b)) (rest := rest.map (pr_v b)) (Ts := pr_G) (nL := mi.2.2.1) ⟨X.1, X.2.1, X.2.2.2.1, X.own, X.ts⟩ (m3 l D aC b) ⟨va_cnB n X.ts (pr_good hok (fun _ h9 => h9)) rfl rfl rfl (X.Kz.2.nm hl) (X.ts _ hini) hy ⟨by show d + 1 ≤ _; omega, by show 8 + (m2.2.2.1 + 11) + d * 80 ≤ _; omega⟩, X.ts _ hi, X.ts _ hse⟩
    ⟨pr_blind, va_recv X.K (hI.p ho (pr_j_cl hcl)) hcl (q0 := 0) rfl, fun U hU hW => ⟨rfl, by rw [hU]; exact hI, X.Kz.to hS hU hW⟩⟩ rfl (by rw [List.length_map]; exact hn) hlv.1 (by simp [pr_v]) (lv_room (pr_catS hst)) hd ⟨by omega, by omega⟩) hS ?_
  exact fun H1 locs1 hI1 hS1 => k3 D aC b p l e R s m args below meth c X H1 locs1 _ _ ls hI1 hS1 hlv e1 e2
theorem pr_callS {idx n : Nat} {m2 : pr_M} {as rest : List Value} {v1 : Option Value} {h1 : pr_H} (hd : decode mi.2.1 pc = .ok (.invokestatic idx, 3)) (hc : pr_cal m2 n) (hl : Cond.methodLink mi.1.cls idx m2.1 ∈ pr_G) (hi : Cond.static m2.1 ∈ pr_G) (hn : as.length = n)
    (hst : (rest.map fun v => v.category).sum ≤ 8) (hM : pr_Met d m2 as h v1 h1) (kk : pr_R (d + 1) mi (pc + 3) lo (v1.toList ++ rest) h1 v h') : pr_R (d + 1) mi pc lo (as.reverse ++ rest) h v h' := by
  obtain ⟨hok, hini, hy, hmx⟩ := hc
  obtain ⟨m1, m2', m3⟩ := hM
  obtain ⟨k1, k2, k3⟩ := kk
  refine ⟨Nat.le_trans m1 k1, Nat.le_trans m2' k2, fun D aC b p l e R s m args below meth c X H locs cells slots ls hI hS hlv e1 e2 => ?_⟩
  have a1 : cells + (h'.length - h.length) = cells + (h1.length - h.length) + (h'.length - h1.length) := by omega
  have a2 : slots + (pr_sz h' - pr_sz h) = slots + (pr_sz h1 - pr_sz h) + (pr_sz h' - pr_sz h1) := by omega
  rw [a1] at e1 ⊢
  rw [a2] at e2 ⊢
  have hr := X.fr
  refine pr_cont (rest := rest) (va_runS (As := as.map (pr_v b)) (rest := rest.map (pr_v b)) (Ts := pr_G) (nL := mi.2.2.1) ⟨X.1, X.2.1, X.2.2.2.1, X.own, X.ts⟩ (m3 l D aC b) ⟨callB_of n X.ts (pr_good hok (fun _ h9 => h9)) rfl rfl rfl (X.ts _ hini) (X.ts _ hl) hy ⟨by show d + 1 ≤ _; omega, by show 8 + (m2.2.2.1 + 11) + d * 80 ≤ _; omega⟩, X.ts _ hi⟩
    ⟨pr_blind, fun U hU hW => ⟨rfl, by rw [hU]; exact hI, X.Kz.to hS hU hW⟩⟩ rfl (by rw [List.length_map]; exact hn) hlv.1 (by simp) (lv_room (pr_catS hst)) hd ⟨by omega, by omega⟩) hS ?_
  exact fun H1 locs1 hI1 hS1 => k3 D aC b p l e R s m args below meth c X H1 locs1 _ _ ls hI1 hS1 hlv e1 e2
theorem pr_callSN {idx n : Nat} {host : String} {m2 : pr_M} {as rest : List Value} {v1 : Option Value} {h1 : pr_H} (hd : decode mi.2.1 pc = .ok (.invokestatic idx, 3)) (hc : pr_cal m2 n) (hl : (mi.1.cls, idx, m2.1, host) ∈ pz_nm) (hi : Cond.static m2.1 ∈ pr_G) (hn : as.length = n)
    (hst : (rest.map fun v => v.category).sum ≤ 8) (hM : pr_Met d m2 as h v1 h1) (kk : pr_R (d + 1) mi (pc + 3) lo (v1.toList ++ rest) h1 v h') : pr_R (d + 1) mi pc lo (as.reverse ++ rest) h v h' := by
  obtain ⟨hok, hini, hy, hmx⟩ := hc
  obtain ⟨m1, m2', m3⟩ := hM
  obtain ⟨k1, k2, k3⟩ := kk
  refine ⟨Nat.le_trans m1 k1, Nat.le_trans m2' k2, fun D aC b p l e R s m args below meth c X H locs cells slots ls hI hS hlv e1 e2 => ?_⟩
  have a1 : cells + (h'.length - h.length) = cells + (h1.length - h.length) + (h'.length - h1.length) := by omega
  have a2 : slots + (pr_sz h' - pr_sz h) = slots + (pr_sz h1 - pr_sz h) + (pr_sz h' - pr_sz h1) := by omega
  rw [a1] at e1 ⊢
  rw [a2] at e2 ⊢
  have hr := X.fr
  refine pr_cont (rest := rest) (va_runSN (As := as.map (pr_v b)) (rest := rest.map (pr_v b)) (Ts := pr_G) (nL := mi.2.2.1) ⟨X.1, X.2.1, X.2.2.2.1, X.own, X.ts⟩ (m3 l D aC b) ⟨va_cnB n X.ts (pr_good hok (fun _ h9 => h9)) rfl rfl rfl (X.Kz.2.nm hl) (X.ts _ hini) hy ⟨by show d + 1 ≤ _; omega, by show 8 + (m2.2.2.1 + 11) + d * 80 ≤ _; omega⟩, X.ts _ hi, trivial⟩
    ⟨pr_blind, fun U hU hW => ⟨rfl, by rw [hU]; exact hI, X.Kz.to hS hU hW⟩⟩ rfl (by rw [List.length_map]; exact hn) hlv.1 (by simp) (lv_room (pr_catS hst)) hd ⟨by omega, by omega⟩) hS ?_
  exact fun H1 locs1 hI1 hS1 => k3 D aC b p l e R s m args below meth c X H1 locs1 _ _ ls hI1 hS1 hlv e1 e2
theorem pr_callI {idx k n : Nat} {m2 : pr_M} {as rest : List Value} {h1 : pr_H} (hd : decode mi.2.1 pc = .ok (.invokespecial idx, 3)) (hc : pr_cal m2 n) (hl : Cond.methodLink mi.1.cls idx m2.1 ∈ pr_G) (hi : Cond.instanceMethod m2.1 ∈ pr_G) (hin : m2.1.name = "<init>") (hret : m2.2.2.2 = none) (hn : as.length = n)
    (hst : (rest.map fun v => v.category).sum ≤ 8) (hM : pr_Met d m2 (.ref k :: as) h none h1) (kk : pr_R (d + 1) mi (pc + 3) lo rest h1 v h') : pr_R (d + 1) mi pc lo (as.reverse ++ .ref k :: rest) h v h' := by
  obtain ⟨hok, hini, hy, hmx⟩ := hc
  obtain ⟨y2, c2, l2, r2⟩ := m2
  dsimp only at hret
  subst hret
  have hmx : l2 ≤ 61 := hmx
  obtain ⟨m1, m2', m3⟩ := hM
  obtain ⟨k1, k2, k3⟩ := kk
  refine ⟨Nat.le_trans m1 k1, Nat.le_trans m2' k2, fun D aC b p l e R s m args below meth c X H locs cells slots ls hI hS hlv e1 e2 => ?_⟩
  have a1 : cells + (h'.length - h.length) = cells + (h1.length - h.length) + (h'.length - h1.length) := by omega
  have a2 : slots + (pr_sz h' - pr_sz h) = slots + (pr_sz h1 - pr_sz h) + (pr_sz h' - pr_sz h1) := by omega
  rw [a1] at e1 ⊢
  rw [a2] at e2 ⊢
  have hr := X.fr
  refine pr_cont (v1 := none) (rest := rest) (va_runI (As := as.map (pr_v b)) (rest := rest.map (pr_v b)) (Ts := pr_G) (nL := mi.2.2.1) ⟨X.1, X.2.1, X.2.2.2.1, X.own, X.ts⟩ (m3 l D aC b) ⟨callB_of n X.ts (pr_good hok (fun _ h9 => h9)) rfl rfl rfl (X.ts _ hini) (X.ts _ hl) hy ⟨by show d + 1 ≤ _; omega, by show 8 + (l2 + 11) + d * 80 ≤ _; omega⟩, hin, X.ts _ hi⟩
    ⟨pr_blind, fun U hU hW => ⟨rfl, by rw [hU]; exact hI, X.Kz.to hS hU hW⟩⟩ rfl (by rw [List.length_map]; exact hn) hlv.1 (by simp [pr_v]) (lv_room (pr_catS hst)) hd ⟨by omega, by omega⟩) hS ?_
  exact fun H1 locs1 hI1 hS1 => k3 D aC b p l e R s m args below meth c X H1 locs1 _ _ ls hI1 hS1 hlv e1 e2
theorem pr_callIN {idx k n : Nat} {host : String} {m2 : pr_M} {as rest : List Value} {h1 : pr_H} (hd : decode mi.2.1 pc = .ok (.invokespecial idx, 3)) (hc : pr_cal m2 n) (hl : (mi.1.cls, idx, m2.1, host) ∈ pz_nm) (hi : Cond.instanceMethod m2.1 ∈ pr_G) (hin : m2.1.name = "<init>") (hret : m2.2.2.2 = none) (hn : as.length = n)
    (hst : (rest.map fun v => v.category).sum ≤ 8) (hM : pr_Met d m2 (.ref k :: as) h none h1) (kk : pr_R (d + 1) mi (pc + 3) lo rest h1 v h') : pr_R (d + 1) mi pc lo (as.reverse ++ .ref k :: rest) h v h' := by
  obtain ⟨hok, hini, hy, hmx⟩ := hc
  obtain ⟨y2, c2, l2, r2⟩ := m2
  dsimp only at hret
  subst hret
  have hmx : l2 ≤ 61 := hmx
  obtain ⟨m1, m2', m3⟩ := hM
  obtain ⟨k1, k2, k3⟩ := kk
  refine ⟨Nat.le_trans m1 k1, Nat.le_trans m2' k2, fun D aC b p l e R s m args below meth c X H locs cells slots ls hI hS hlv e1 e2 => ?_⟩
  have a1 : cells + (h'.length - h.length) = cells + (h1.length - h.length) + (h'.length - h1.length) := by omega
  have a2 : slots + (pr_sz h' - pr_sz h) = slots + (pr_sz h1 - pr_sz h) + (pr_sz h' - pr_sz h1) := by omega
  rw [a1] at e1 ⊢
  rw [a2] at e2 ⊢
  have hr := X.fr
  refine pr_cont (v1 := none) (rest := rest) (va_runIN (As := as.map (pr_v b)) (rest := rest.map (pr_v b)) (Ts := pr_G) (nL := mi.2.2.1) ⟨X.1, X.2.1, X.2.2.2.1, X.own, X.ts⟩ (m3 l D aC b) ⟨va_cnB n X.ts (pr_good hok (fun _ h9 => h9)) rfl rfl rfl (X.Kz.2.nm hl) (X.ts _ hini) hy ⟨by show d + 1 ≤ _; omega, by show 8 + (l2 + 11) + d * 80 ≤ _; omega⟩, hin, X.ts _ hi⟩
    ⟨pr_blind, fun U hU hW => ⟨rfl, by rw [hU]; exact hI, X.Kz.to hS hU hW⟩⟩ rfl (by rw [List.length_map]; exact hn) hlv.1 (by simp [pr_v]) (lv_room (pr_catS hst)) hd ⟨by omega, by omega⟩) hS ?_
  exact fun H1 locs1 hI1 hS1 => k3 D aC b p l e R s m args below meth c X H1 locs1 _ _ ls hI1 hS1 hlv e1 e2
end PRC
