/-! BASE, PART 1 (draft, not yet compiled): pure heaps, the judgement pr_R over them, the contract pr_Met, rows.
Wanted ahead of it (names): pr_cl : List vw_C (the classes), pr_tys : List FieldType (component types of the arrays), lw_tbl (the tables' words).
A PLACE is a number in a list of cells; place k lies at address b.1 + k, b the heap's size as the law begins. -/
/-- the heap's size as the law begins; the addresses of the text constants (i) and of their bytes (100 + i) -/
abbrev pr_B : Type := Nat × (Nat → Nat) × Option Nat
/-- what a mark stands for: 50 is a static that may be null, the others are texts and their bytes -/
def pr_mk (b : pr_B) (i : Nat) : Value := if i = 50 then (match b.2.2 with
  | none => .null
  | some a => .ref a) else .ref (b.2.1 i)
theorem pr_mk_cat (b : pr_B) (i : Nat) : (pr_mk b i).category = 1 := by
  unfold pr_mk
  split
  · split <;> rfl
  · rfl
abbrev pr_C : Type := (Nat × vp_A) ⊕ (Nat × List Value)
abbrev pr_H : Type := List pr_C
def pr_v (b : pr_B) (v : Value) : Value := match v with
  | .ref k => .ref (b.1 + k)
  | .int x => .int x
  | .long x => .long x
  | .float x => .float x
  | .double x => .double x
  | .null => .null
  | .retAddr i => pr_mk b i
theorem pr_v_cat (b : pr_B) (v : Value) : (pr_v b v).category = v.category := by
  cases v
  case retAddr i => exact pr_mk_cat b i
  all_goals rfl
def pr_a (b : pr_B) (a : vp_A) : vp_A := (a.1, match a.2 with
  | .inl f => .inl f
  | .inr (.inl f) => .inr (.inl f)
  | .inr (.inr (.inl f)) => .inr (.inr (.inl f))
  | .inr (.inr (.inr (.inl f))) => .inr (.inr (.inr (.inl f)))
  | .inr (.inr (.inr (.inr f))) => .inr (.inr (.inr (.inr (fun j => (f j).map (fun k => b.1 + k))))))
def pr_e (b : pr_B) (aC : Nat → ClassId) (x : pr_C) : va_E := match x with
  | .inl a => .inl (aC a.1, pr_a b a.2)
  | .inr o => .inr (o.1, o.2.map (pr_v b))
/-- a cell of which nothing is known any more -/
def pr_j (x : pr_C) : Bool := match x with
  | .inl _ => false
  | .inr o => Nat.beq o.1 999
abbrev pr_A (b : pr_B) : Nat → Prop := fun q => b.1 ≤ q
/-- how many slots a cell has -/
def pr_s (x : pr_C) : Nat := match x with
  | .inl a => a.2.1
  | .inr o => o.2.length
def pr_sz (h : pr_H) : Nat := (h.map pr_s).sum
def pr_I (b : pr_B) (D : va_G) (aC : Nat → ClassId) (h : pr_H) (H : Heap) : Prop := (∀ (k : Nat) (x : pr_C), h[k]? = some x → pr_j x = false → va_at D pr_cl (b.1 + k, pr_e b aC x) H) ∧ H.size = b.1 + h.length
theorem pr_j_cl {ci : Nat} {fs : List Value} {q : vw_C} (h : pr_cl[ci]? = some q) : pr_j (.inr (ci, fs)) = false := by
  have h9 : pr_cl[999]? = none := rfl
  show Nat.beq ci 999 = false
  cases hb : Nat.beq ci 999 with
  | false => rfl
  | true =>
    have := Nat.eq_of_beq_eq_true hb
    subst this
    rw [h9] at h
    cases h
theorem pr_I.p {b : pr_B} {D : va_G} {aC : Nat → ClassId} {h : pr_H} {H : Heap} (hI : pr_I b D aC h H) {k : Nat} {x : pr_C} (hk : h[k]? = some x) (hj : pr_j x = false) : va_P D pr_cl [(b.1 + k, pr_e b aC x)] H := by
  intro i q hi
  have hz : i < 1 := (List.getElem?_eq_some_iff.mp hi).1
  rw [show i = 0 by omega] at hi
  cases hi
  exact hI.1 k x hk hj
theorem pr_I.set {b : pr_B} {D : va_G} {aC : Nat → ClassId} {h : pr_H} {H H1 : Heap} (hI : pr_I b D aC h H) {k : Nat} {x0 x : pr_C} (hk : h[k]? = some x0) (hx : va_at D pr_cl (b.1 + k, pr_e b aC x) H1) (hs : H1.size = H.size) (ho : ∀ q : Nat, q ≠ b.1 + k → H1[q]? = H[q]?) : pr_I b D aC (h.set k x) H1 := by
  have hl := (List.getElem?_eq_some_iff.mp hk).1
  refine ⟨fun i y hi hj => ?_, by rw [hs, hI.2, List.length_set]⟩
  by_cases hik : i = k
  · subst hik
    rw [List.getElem?_set_self hl] at hi
    cases hi
    exact hx
  · rw [List.getElem?_set_ne (Ne.symm hik)] at hi
    exact (hI.1 i y hi hj).kept (ho _ (by show b.1 + i ≠ b.1 + k; omega))
theorem pr_I.push {b : pr_B} {D : va_G} {aC : Nat → ClassId} {h : pr_H} {H H1 : Heap} (hI : pr_I b D aC h H) {x : pr_C} (hx : pr_j x = false → va_at D pr_cl (b.1 + h.length, pr_e b aC x) H1) (hs : H1.size = b.1 + h.length + 1) (ho : ∀ q : Nat, q < b.1 + h.length → H1[q]? = H[q]?) : pr_I b D aC (h ++ [x]) H1 := by
  refine ⟨fun i y hi hj => ?_, by rw [hs, List.length_append, List.length_singleton]; omega⟩
  by_cases hil : i < h.length
  · rw [List.getElem?_append_left hil] at hi
    exact (hI.1 i y hi hj).kept (ho _ (by show b.1 + i < _; omega))
  · have hi2 := (List.getElem?_eq_some_iff.mp hi).1
    rw [List.length_append, List.length_singleton] at hi2
    have : i = h.length := by omega
    subst this
    rw [List.getElem?_append_right (Nat.le_refl _), Nat.sub_self] at hi
    cases hi
    exact hx hj
abbrev pr_tl (aC : Nat → ClassId) : List (ClassId × FieldType) := pr_tys.mapIdx (fun t ty => (aC t, ty))
def pz_len : List Nat := [6, 5, 6, 3]
def pz_byt : List (List Int32) := [[79, 98, 106, 101, 99, 116], [84, 104, 114, 111, 119], [69, 120, 99, 101, 112, 116], [82, 117, 110]]
/-- the text constants: owner, place in its pool, text, number -/
def pz_lits : List (String × Nat × String × Nat) := [("InferResolve$Kinds", 36, "Object", 0), ("InferResolve$Kinds", 42, "Throw", 1), ("InferResolve$Kinds", 44, "Except", 2), ("InferResolve$Kinds", 46, "Run", 3), ("InferResolveModel", 118, "Object", 0), ("InferResolveModel", 127, "Throw", 1), ("InferResolveModel", 129, "Except", 2), ("InferResolveModel", 131, "Run", 3), ("InferResolve", 199, "no such byte was written", 4)]
/-- links between nest mates -/
def pz_nm : List (String × Nat × MethodName × String) := [("InferResolve$Kinds", 147, ⟨"InferResolve", "isParameter", "(I)Z"⟩, "InferResolve"), ("InferResolve$Reducer", 52, ⟨"InferResolve", "isVariable", "(I)Z"⟩, "InferResolve"), ("InferResolve$Bounds", 80, ⟨"InferResolve", "isVariable", "(I)Z"⟩, "InferResolve"), ("InferResolve$Reducer", 66, ⟨"InferResolve", "isMeet", "(I)Z"⟩, "InferResolve"), ("InferResolve$Kinds", 143, ⟨"InferResolve", "isMeet", "(I)Z"⟩, "InferResolve"), ("InferResolve$Row", 39, ⟨"InferResolve", "isVariable", "(I)Z"⟩, "InferResolve"), ("InferResolve$Writer", 27, ⟨"InferResolve", "isMeet", "(I)Z"⟩, "InferResolve"), ("InferResolve$Writer", 35, ⟨"InferResolve", "isVariable", "(I)Z"⟩, "InferResolve"), ("InferResolve$Solver", 82, ⟨"InferResolve", "isVariable", "(I)Z"⟩, "InferResolve"), ("InferResolve$Lattice", 102, ⟨"InferResolve", "isMeet", "(I)Z"⟩, "InferResolve"), ("InferResolveModel", 36, ⟨"InferResolveModel$Store", "<init>", "()V"⟩, "InferResolveModel"), ("InferResolveModel", 42, ⟨"InferResolveModel$Kinds", "<init>", "()V"⟩, "InferResolveModel"), ("InferResolveModel", 63, ⟨"InferResolveModel$Bounds", "<init>", "()V"⟩, "InferResolveModel")]
def pz_nf : List (String × Nat × String × String × String × String) := [("InferResolve$Kinds", 133, "InferResolve$Row", "cells", "[I", "InferResolve"), ("InferResolve$Reader", 167, "InferResolve$Row", "cells", "[I", "InferResolve"), ("InferResolve$Kinds", 131, "InferResolve$Row", "size", "I", "InferResolve"), ("InferResolve$Reader", 165, "InferResolve$Row", "size", "I", "InferResolve")]
/-- what lies below the law's own cells: text constants, statics -/
def pr_Z (b : pr_B) (U : State) : Prop := vk_S 4 pz_len pz_byt b.2.1 (fun i => b.2.1 (100 + i)) (pr_A b) U U.heap ∧ va_Z "java/lang/String" "COMPACT_STRINGS" "Z" (.int 1) (pr_A b) U U.heap ∧ va_Z "jdk/internal/util/Preconditions" "SIOOBE_FORMATTER" "Ljava/util/function/BiFunction;" (pr_mk b 50) (pr_A b) U U.heap ∧ (∀ q ∈ pz_lits, vk_R q.1 q.2.1 q.2.2.1 (b.2.1 q.2.2.2) U) ∧ vx_Zq Bundle.tN "UNASSIGNED_STACK" Bundle.steD (pr_A b) U U.heap ∧ vx_Zq Bundle.tN "SUPPRESSED_SENTINEL" Bundle.listD (pr_A b) U U.heap ∧ (∀ q ∈ pz_nm, va_Nw (.methodLinkNest q.1 q.2.1 q.2.2.1 q.2.2.2) U) ∧ ∀ q ∈ pz_nf, va_Nw (.fieldLinkNest q.1 q.2.1 q.2.2.1 q.2.2.2.1 q.2.2.2.2.1 q.2.2.2.2.2) U
theorem pr_Z.to {b : pr_B} {s U : State} {H : Heap} {locs : List Loc} (h : pr_Z b s) (hS : va_S (pr_A b) s.heap H locs) (hU : U.heap = H) (hW : s.WarmedH U.vm) : pr_Z b U := by
  obtain ⟨h1, h2, h6, h3, h4, h5, h7, h8⟩ := h
  subst hU
  exact ⟨vk_S.moved hW.alike (h1.kept hS.2.1), va_Z.moved hW.alike (h2.kept hS.2.1), va_Z.moved hW.alike (h6.kept hS.2.1), fun q hq => (h3 q hq).warm hW, vx_Zq.moved hW.alike (h4.kept hS.2.1), vx_Zq.moved hW.alike (h5.kept hS.2.1), fun q hq => (h7 q hq).warmM hW, fun q hq => (h8 q hq).warmF hW⟩
theorem pr_Z.calling {b : pr_B} {U : State} {g : JFrame} {mk : MethodId} {a : Array Value} (h : pr_Z b U) : pr_Z b (U.calling g mk a) := by
  obtain ⟨h1, h2, h6, h3, h4, h5, h7, h8⟩ := h
  exact ⟨vk_S.moved (u := U) (U := U.calling g mk a) (Vm.Alike.refl U.vm) h1, va_Z.moved (u := U) (U := U.calling g mk a) (Vm.Alike.refl U.vm) h2, va_Z.moved (u := U) (U := U.calling g mk a) (Vm.Alike.refl U.vm) h6, fun q hq => (h3 q hq).same rfl, vx_Zq.moved (u := U) (U := U.calling g mk a) (Vm.Alike.refl U.vm) h4, vx_Zq.moved (u := U) (U := U.calling g mk a) (Vm.Alike.refl U.vm) h5, fun q hq => (h7 q hq).same rfl rfl, fun q hq => (h8 q hq).same rfl rfl⟩
theorem pr_Z.nm {b : pr_B} {U : State} (h : pr_Z b U) {a : String} {i : Nat} {y : MethodName} {c : String} (hq : (a, i, y, c) ∈ pz_nm) : va_Nw (.methodLinkNest a i y c) U := h.2.2.2.2.2.2.1 _ hq
theorem pr_Z.nf {b : pr_B} {U : State} (h : pr_Z b U) {a : String} {i : Nat} {r n d c : String} (hq : (a, i, r, n, d, c) ∈ pz_nf) : va_Nw (.fieldLinkNest a i r n d c) U := h.2.2.2.2.2.2.2 _ hq
def pr_K (b : pr_B) (D : va_G) (aC : Nat → ClassId) (U : State) : Prop := va_K D pr_cl (pr_tl aC) U ∧ pr_Z b U
theorem pr_K.to {b : pr_B} {D : va_G} {aC : Nat → ClassId} {s U : State} {H : Heap} {locs : List Loc} (h : pr_K b D aC s) (hS : va_S (pr_A b) s.heap H locs) (hU : U.heap = H) (hW : s.WarmedH U.vm) : pr_K b D aC U := ⟨va_K.moved hW.alike h.1, h.2.to hS hU hW⟩
theorem pr_K.calling {b : pr_B} {D : va_G} {aC : Nat → ClassId} {U : State} {g : JFrame} {mk : MethodId} {a : Array Value} (h : pr_K b D aC U) : pr_K b D aC (U.calling g mk a) := ⟨va_K.moved (u := U) (U := U.calling g mk a) (Vm.Alike.refl U.vm) h.1, h.2.calling⟩
/-- the words that all methods share -/
def pr_G : List Cond := lw_tbl.filter goodWord
theorem pr_G_in {w : Cond} (h : w ∈ pr_G) : w ∈ lw_tbl ∧ ((w.onTables && w.keeps) = true ∨ ∃ ty, w = .arrayClass ty) := by
  obtain ⟨h1, h2⟩ := List.mem_filter.mp h
  exact ⟨h1, good_of_word h2⟩
theorem pr_G_of {w : Cond} {k : Nat} (h : lw_tbl[k]? = some w) (hg : goodWord w = true) : w ∈ pr_G := List.mem_filter.mpr ⟨List.mem_of_getElem? h, hg⟩
/-- a method: name, bytes, locals, return type -/
abbrev pr_M : Type := MethodName × ByteArray × Nat × Option FieldType
def pr_ws (mi : pr_M) : List Cond := .code mi.1 mi.2.1 mi.2.2.1 mi.2.2.2 :: pr_G
def pr_ok (mi : pr_M) : Prop := Cond.code mi.1 mi.2.1 mi.2.2.1 mi.2.2.2 ∈ pr_G
theorem pr_good {mi : pr_M} (h : pr_ok mi) {big : List Cond} (hb : ∀ w ∈ pr_G, w ∈ big) : GoodIn big (pr_ws mi) := by
  intro w hw
  rcases List.mem_cons.mp hw with rfl | hw
  · exact ⟨hb _ h, (pr_G_in h).2⟩
  · exact ⟨hb _ hw, (pr_G_in hw).2⟩
/-- what is known where a method runs, with room for d frames over it -/
def pr_X (d : Nat) (mi : pr_M) (D : va_G) (aC : Nat → ClassId) (b : pr_B) (p : Program) (R : Room) (s : State) (m : MethodId) (args : Array Value) (meth : Method) (c : Code) : Prop :=
  p.tables.exec = Jvm.exec ∧ c.code = mi.2.1 ∧ meth.sig.returnType = mi.2.2.2 ∧ c.maxLocals = mi.2.2.1 ∧ s.vm.findClass mi.1.cls = some m.cls ∧ (∀ w ∈ pr_G, w.before args s = true) ∧ meth.locks = false ∧ meth.name = mi.1.name ∧ pr_K b D aC s ∧ d ≤ R.frames ∧ d * 80 ≤ R.locals ∧ b.1 ≤ s.heap.size
/-- a method's end: it returns v, the heap is h' -/
def pr_Q (b : pr_B) (D : va_G) (aC : Nat → ClassId) (v : Option Value) (h' : pr_H) : Array Value → State → Outcome → State → Prop := fun _ st o t =>
  o = .returned (v.map (pr_v b)) ∧ pr_I b D aC h' t.heap ∧ va_F (pr_A b) st t
abbrev pr_lo (b : pr_B) (lo : List (Nat × Value)) : List (Nat × Value) := lo.map (fun q => (q.1, pr_v b q.2))
/-- **from pc, with locals lo, stack st and heap h, the method returns v with heap h'** -/
def pr_R (d : Nat) (mi : pr_M) (pc : Nat) (lo : List (Nat × Value)) (st : List Value) (h : pr_H) (v : Option Value) (h' : pr_H) : Prop :=
  h.length ≤ h'.length ∧ pr_sz h ≤ pr_sz h' ∧
  ∀ (D : va_G) (aC : Nat → ClassId) (b : pr_B) (p : Program) (l : Launch) (e : Env) (R : Room) (s : State) (m : MethodId) (args : Array Value) (below : List Frame) (meth : Method) (c : Code), pr_X d mi D aC b p R s m args meth c →
    ∀ (H : Heap) (locs : List Loc) (cells slots : Nat) (ls : Array Slot), pr_I b D aC h H → va_S (pr_A b) s.heap H locs → lv_has ls mi.2.2.1 (pr_lo b lo) → cells + (h'.length - h.length) ≤ R.cells → slots + (pr_sz h' - pr_sz h) ≤ R.slots →
      W p l e R s m args below meth c H locs cells slots (MQ below (pr_Q b D aC v h') args s (cells + (h'.length - h.length)) (slots + (pr_sz h' - pr_sz h)) (pr_A b)) (F0 m pc ls (st.map (pr_v b)))
/-- **the method, called with as in heap h, returns v with heap h'** -/
def pr_Met (d : Nat) (mi : pr_M) (as : List Value) (h : pr_H) (v : Option Value) (h' : pr_H) : Prop :=
  h.length ≤ h'.length ∧ pr_sz h ≤ pr_sz h' ∧
  ∀ (l : Launch) (D : va_G) (aC : Nat → ClassId) (b : pr_B), Met l mi.1 (pr_ws mi) { frames := d, cells := h'.length - h.length, slots := pr_sz h' - pr_sz h, locals := d * 80 }
    (va_Pc (as.map (pr_v b)) (fun U => pr_I b D aC h U.heap ∧ pr_K b D aC U)) (pr_Q b D aC v h') (h'.length - h.length) (pr_sz h' - pr_sz h) (pr_A b)
theorem pr_args (b : pr_B) : ∀ (as : List Value) (i : Nat), lv_args i (as.map (pr_v b)) = pr_lo b (lv_args i as)
  | [], _ => rfl
  | v :: as, i => by
    simp only [List.map_cons, lv_args, pr_v_cat, pr_args b as]
theorem pr_sl (b : pr_B) : ∀ (as : List Value), (lg_sl (as.map (pr_v b))).length = (lg_sl as).length
  | [] => rfl
  | v :: as => by
    have h := pr_sl b as
    simp only [lg_sl, List.map_cons, List.flatMap_cons, List.length_append, pr_v_cat] at h ⊢
    rw [h]
    by_cases hc : v.category = 2 <;> simp [hc]
theorem pr_enter {d : Nat} {mi : pr_M} {as : List Value} {h : pr_H} {v : Option Value} {h' : pr_H} (hy : plainName mi.1.cls = true) (ha : (lg_sl as).length ≤ mi.2.2.1) (k : pr_R d mi 0 (lv_args 0 as) [] h v h') : pr_Met d mi as h v h' := by
  refine ⟨k.1, k.2.1, fun l D aC b => ?_⟩
  refine Met.ofW (cc := mi.2.1) (maxL := mi.2.2.1) (ret := mi.2.2.2) hy rfl ?_
  intro p e s m args below meth c s₁ B hml hv
  obtain ⟨rfl, hI, hK⟩ := hv
  have hl := lv_entry (as.map (pr_v b)) (n := mi.2.2.1) (by rw [pr_sl]; exact ha)
  rw [pr_args] at hl
  rw [lg_entry_eq]
  have hk := k.2.2 D aC b p l e ({ frames := d, cells := h'.length - h.length, slots := pr_sz h' - pr_sz h, locals := d * 80 } : Room) s m _ below meth c ⟨B.exec, B.bytes, B.returns, hml, findClass_of_methodNamed B.named, fun w hw => atoms_spec (ws := pr_ws mi) B.pre w (List.mem_cons_of_mem _ hw), B.notSynchronized, (name_of_methodNamed B.named B.method).1, hK, Nat.le_refl _, Nat.le_refl _, by rw [hI.2]; exact Nat.le_add_right _ _⟩ s.heap [] 0 0 _ hI va_S.rf hl (by rw [Nat.zero_add]; exact Nat.le_refl _) (by rw [Nat.zero_add]; exact Nat.le_refl _)
  rw [Nat.zero_add, Nat.zero_add] at hk
  exact hk
