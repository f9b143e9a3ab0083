/-! THE INTERPRETER (draft): forced values, ops, run, soundness. -/
noncomputable def pr_nB (n : Nat) : Int32 := Int32.ofBitVec (BitVec.ofNat 32 n)
theorem pr_nB_eq (x : Int32) : pr_nB x.toBitVec.toNat = x := by
  unfold pr_nB
  rw [BitVec.ofNat_toNat, BitVec.setWidth_eq]
  rfl
/-- an int, evaluated before it goes on -/
noncomputable def pr_fi {α : Type} (x : Int32) (k : Int32 → α) : α := Nat.rec (motive := fun _ => α) (k (pr_nB 0)) (fun n _ => k (pr_nB (n + 1))) x.toBitVec.toNat
theorem pr_fi_eq {α : Type} (x : Int32) (k : Int32 → α) : pr_fi x k = k x := by
  unfold pr_fi
  have h := pr_nB_eq x
  cases hn : x.toBitVec.toNat with
  | zero => rw [hn] at h; show k (pr_nB 0) = k x; rw [h]
  | succ n => rw [hn] at h; show k (pr_nB (n + 1)) = k x; rw [h]
noncomputable def pr_fn {α : Type} (x : Nat) (k : Nat → α) : α := Nat.rec (motive := fun _ => α) (k 0) (fun n _ => k (n + 1)) x
theorem pr_fn_eq {α : Type} (x : Nat) (k : Nat → α) : pr_fn x k = k x := by cases x <;> rfl
/-- a list whose spine is evaluated before it goes on -/
noncomputable def pr_fl {α β : Type} (l : List α) (k : List α → β) : β := List.rec (motive := fun _ => (List α → β) → β) (fun k => k []) (fun a _ ih k => ih (fun l => k (a :: l))) l k
theorem pr_fl_eq {α β : Type} : ∀ (l : List α) (k : List α → β), pr_fl l k = k l
  | [], _ => rfl
  | a :: l, k => pr_fl_eq l (fun l => k (a :: l))
/-- a value, evaluated -/
noncomputable def pr_fv {α : Type} (v : Value) (k : Value → α) : α := match v with
  | .int x => pr_fi x (fun x => k (.int x))
  | .ref a => pr_fn a (fun a => k (.ref a))
  | v => k v
theorem pr_fv_eq {α : Type} (v : Value) (k : Value → α) : pr_fv v k = k v := by
  cases v <;> simp [pr_fv, pr_fi_eq, pr_fn_eq]
/-- fast readings -/
noncomputable def pr_at {α : Type} (l : List α) : Nat → Option α := List.rec (motive := fun _ => Nat → Option α) (fun _ => none) (fun a _ ih k => Nat.rec (motive := fun _ => Option α) (some a) (fun k _ => ih k) k) l
theorem pr_at_eq {α : Type} : ∀ (l : List α) (k : Nat), pr_at l k = l[k]?
  | [], k => by cases k <;> rfl
  | a :: l, 0 => rfl
  | a :: l, k + 1 => by
    show pr_at l k = _
    rw [pr_at_eq l k]; rfl
/-- a list with one place written, its spine evaluated before it goes on -/
noncomputable def pr_wr {α β : Type} (x : α) (l : List α) : Nat → (List α → β) → β := List.rec (motive := fun _ => Nat → (List α → β) → β) (fun _ k => k []) (fun a l ih i k => Nat.rec (motive := fun _ => β) (k (x :: l)) (fun i _ => ih i (fun l => k (a :: l))) i) l
theorem pr_wr_eq {α β : Type} (x : α) : ∀ (l : List α) (i : Nat) (k : List α → β), pr_wr x l i k = k (l.set i x)
  | [], i, k => by cases i <;> rfl
  | a :: l, 0, k => rfl
  | a :: l, i + 1, k => by
    show pr_wr x l i (fun l => k (a :: l)) = _
    rw [pr_wr_eq x l i]; rfl
/-- a list with one element more behind it -/
noncomputable def pr_ap {α β : Type} (x : α) (l : List α) (k : List α → β) : β := List.rec (motive := fun _ => (List α → β) → β) (fun k => k [x]) (fun a _ ih k => ih (fun l => k (a :: l))) l k
theorem pr_ap_eq {α β : Type} (x : α) : ∀ (l : List α) (k : List α → β), pr_ap x l k = k (l ++ [x])
  | [], _ => rfl
  | a :: l, k => pr_ap_eq x l (fun l => k (a :: l))
theorem pr_beq (a b : Nat) : (a == b) = Nat.beq a b := by
  cases h : Nat.beq a b with
  | true => rw [Nat.eq_of_beq_eq_true h]; exact beq_self_eq_true b
  | false =>
    have hn : a ≠ b := fun e => by
      rw [e, Nat.beq_refl] at h
      cases h
    exact beq_eq_false_iff_ne.mpr hn
noncomputable def pr_lg (lo : List (Nat × Value)) (i : Nat) : Option Value := List.rec (motive := fun _ => Option Value) none (fun q _ ih => Bool.rec (motive := fun _ => Option Value) ih (some q.2) (Nat.beq q.1 i)) lo
theorem pr_lg_eq (i : Nat) : ∀ lo : List (Nat × Value), pr_lg lo i = pr_get lo i
  | [] => rfl
  | q :: lo => by
    have ih := pr_lg_eq i lo
    show Bool.rec (motive := fun _ => Option Value) (pr_lg lo i) (some q.2) (Nat.beq q.1 i) = _
    have hb : (q.1 == i) = Nat.beq q.1 i := pr_beq _ _
    unfold pr_get at ih ⊢
    rw [List.find?_cons, hb]
    cases Nat.beq q.1 i with
    | true => rfl
    | false => exact ih
/-- the locals without those that a store into i takes away -/
noncomputable def pr_rm {β : Type} (i : Nat) (lo : List (Nat × Value)) (k : List (Nat × Value) → β) : β := List.rec (motive := fun _ => (List (Nat × Value) → β) → β) (fun k => k []) (fun q _ ih k => Bool.rec (motive := fun _ => β) (ih k) (ih (fun l => k (q :: l))) (!(q.1 == i) && !(q.1 + 1 == i && q.2.category == 2))) lo k
theorem pr_rm_eq {β : Type} (i : Nat) : ∀ (lo : List (Nat × Value)) (k : List (Nat × Value) → β), pr_rm i lo k = k (lo.filter (fun q => !(q.1 == i) && !(q.1 + 1 == i && q.2.category == 2)))
  | [], _ => rfl
  | q :: lo, k => by
    show Bool.rec (motive := fun _ => β) (pr_rm i lo k) (pr_rm i lo (fun l => k (q :: l))) (!(q.1 == i) && !(q.1 + 1 == i && q.2.category == 2)) = _
    rw [pr_rm_eq i lo, pr_rm_eq i lo, List.filter_cons]
    cases (!(q.1 == i) && !(q.1 + 1 == i && q.2.category == 2)) <;> rfl
theorem pr_rm_put {β : Type} (i : Nat) (w : Value) (lo : List (Nat × Value)) (k : List (Nat × Value) → β) : pr_rm i lo (fun l => k ((i, w) :: l)) = k (pr_put1 lo i w) := pr_rm_eq i lo _
/-- n values from the stack, the last pushed last -/
noncomputable def pr_pop (n : Nat) : List Value → List Value → Option (List Value × List Value) := Nat.rec (motive := fun _ => List Value → List Value → Option (List Value × List Value)) (fun as st => some (as, st)) (fun _ ih as st => match st with
  | [] => none
  | v :: st => ih (v :: as) st) n
theorem pr_pop_eq : ∀ (n : Nat) (acc st as rest : List Value), pr_pop n acc st = some (as, rest) → ∃ bs : List Value, as = bs ++ acc ∧ bs.length = n ∧ st = bs.reverse ++ rest
  | 0, acc, st, as, rest, h => by
    cases h
    exact ⟨[], rfl, rfl, rfl⟩
  | n + 1, acc, [], as, rest, h => by cases h
  | n + 1, acc, v :: st, as, rest, h => by
    have h2 : pr_pop n (v :: acc) st = some (as, rest) := h
    obtain ⟨bs, h3, h4, h5⟩ := pr_pop_eq n (v :: acc) st as rest h2
    refine ⟨bs ++ [v], by rw [h3]; simp, by simp [h4], ?_⟩
    rw [h5]
    simp
abbrev pr_L : Type := List (Nat × Value)
/-- the next state: pc, locals, stack, heap -/
abbrev pr_N : Type := Nat × pr_L × List Value × pr_H
/-- calls: number of the method, arguments, heap -/
abbrev pr_Ca : Type := Nat → List Value → pr_H → Option (Option Value × pr_H)
abbrev pr_Op : Type := pr_Ca → pr_L → List Value → pr_H → Option pr_N
abbrev pr_Re : Type := List Value → pr_H → Option (Option Value × pr_H)
abbrev pr_Co : Type := List (Nat × (pr_Op ⊕ pr_Re))
noncomputable def pr_seek (full : pr_Co) (pc : Nat) : pr_Co := List.rec (motive := fun _ => pr_Co) [] (fun q l ih => Bool.rec (motive := fun _ => pr_Co) ih (q :: l) (Nat.beq q.1 pc)) full
theorem pr_seek_in (pc : Nat) : ∀ (full : pr_Co), (∀ e ∈ pr_seek full pc, e ∈ full) ∧ ∀ e rest, pr_seek full pc = e :: rest → e.1 = pc
  | [] => ⟨(fun e h => nomatch h), (fun e rest h => nomatch h)⟩
  | q :: full => by
    have ih := pr_seek_in pc full
    have hu : pr_seek (q :: full) pc = Bool.rec (motive := fun _ => pr_Co) (pr_seek full pc) (q :: full) (Nat.beq q.1 pc) := rfl
    rw [hu]
    cases hb : Nat.beq q.1 pc with
    | true => exact ⟨fun e h => h, fun e rest h => by cases h; exact Nat.eq_of_beq_eq_true hb⟩
    | false => exact ⟨fun e h => List.mem_cons_of_mem _ (ih.1 e h), fun e rest h => ih.2 e rest h⟩
noncomputable def pr_nxt (full rest : pr_Co) (pc : Nat) : pr_Co := match rest with
  | [] => pr_seek full pc
  | q :: rest => Bool.rec (motive := fun _ => pr_Co) (pr_seek full pc) (q :: rest) (Nat.beq q.1 pc)
theorem pr_nxt_in (full rest : pr_Co) (pc : Nat) (hr : ∀ e ∈ rest, e ∈ full) : (∀ e ∈ pr_nxt full rest pc, e ∈ full) ∧ ∀ e r, pr_nxt full rest pc = e :: r → e.1 = pc := by
  cases rest with
  | nil => exact pr_seek_in pc full
  | cons q rest =>
    have hu : pr_nxt full (q :: rest) pc = Bool.rec (motive := fun _ => pr_Co) (pr_seek full pc) (q :: rest) (Nat.beq q.1 pc) := rfl
    rw [hu]
    cases hb : Nat.beq q.1 pc with
    | true => exact ⟨hr, fun e r h => by cases h; exact Nat.eq_of_beq_eq_true hb⟩
    | false => exact pr_seek_in pc full
noncomputable def pr_run (cs : List pr_Co) (n : Nat) : Nat → pr_Co → pr_Co → pr_L → List Value → pr_H → Option (Option Value × pr_H) :=
  Nat.rec (motive := fun _ => Nat → pr_Co → pr_Co → pr_L → List Value → pr_H → Option (Option Value × pr_H)) (fun _ _ _ _ _ _ => none)
    (fun _ ih d full rest lo st h => match rest with
      | [] => none
      | (_, .inr r) :: _ => r st h
      | (_, .inl o) :: rest => match o (fun k as h => match d with
          | 0 => none
          | d + 1 => match pr_at cs k with
            | none => none
            | some c2 => pr_fl (lv_args 0 as) (fun lo => ih d c2 c2 lo [] h)) lo st h with
        | none => none
        | some (pc, lo, st, h) => ih d full (pr_nxt full rest pc) lo st h) n
theorem pr_run_succ (cs : List pr_Co) (n d : Nat) (full rest : pr_Co) (lo : pr_L) (st : List Value) (h : pr_H) : pr_run cs (n + 1) d full rest lo st h = (match rest with
      | [] => none
      | (_, .inr r) :: _ => r st h
      | (_, .inl o) :: rest => match o (fun k as h => match d with
          | 0 => none
          | d + 1 => match pr_at cs k with
            | none => none
            | some c2 => pr_fl (lv_args 0 as) (fun lo => pr_run cs n d c2 c2 lo [] h)) lo st h with
        | none => none
        | some (pc, lo, st, h) => pr_run cs n d full (pr_nxt full rest pc) lo st h) := rfl
/-- what the calls of a run say -/
noncomputable def pr_cOk (ms : List pr_M) (d : Nat) (call : pr_Ca) : Prop := ∀ (k : Nat) (m2 : pr_M) (as : List Value) (h : pr_H) (v1 : Option Value) (h2 : pr_H), ms[k]? = some m2 → (lg_sl as).length ≤ m2.2.2.1 → call k as h = some (v1, h2) → ∃ d0, d = d0 + 1 ∧ pr_Met d0 m2 as h v1 h2
/-- an op is sound at mi, pc -/
noncomputable def pr_oS (ms : List pr_M) (mi : pr_M) (pc : Nat) (o : pr_Op) : Prop :=
  ∀ (d : Nat) (call : pr_Ca) (lo : pr_L) (st : List Value) (h : pr_H) (pc1 : Nat) (lo1 : pr_L) (st1 : List Value) (h1 : pr_H) (v : Option Value) (h' : pr_H),
    pr_cOk ms (d + 1) call → o call lo st h = some (pc1, lo1, st1, h1) → pr_R (d + 1) mi pc1 lo1 st1 h1 v h' → pr_R (d + 1) mi pc lo st h v h'
noncomputable def pr_rS (mi : pr_M) (pc : Nat) (r : pr_Re) : Prop := ∀ (d : Nat) (lo : pr_L) (st : List Value) (h : pr_H) (v : Option Value) (h' : pr_H), r st h = some (v, h') → pr_R d mi pc lo st h v h'
noncomputable def pr_eS (ms : List pr_M) (mi : pr_M) (q : Nat × (pr_Op ⊕ pr_Re)) : Prop := match q.2 with
  | .inl o => pr_oS ms mi q.1 o
  | .inr r => pr_rS mi q.1 r
/-- a method's code is sound -/
noncomputable def pr_aS (ms : List pr_M) (mi : pr_M) (co : pr_Co) : Prop := List.rec (motive := fun _ => Prop) True (fun e _ ih => pr_eS ms mi e ∧ ih) co
theorem pr_aS_in {ms : List pr_M} {mi : pr_M} : ∀ {co : pr_Co}, pr_aS ms mi co → ∀ e ∈ co, pr_eS ms mi e
  | [], _, e, h => by cases h
  | q :: co, ha, e, h => by
    have ha : pr_eS ms mi q ∧ pr_aS ms mi co := ha
    rcases List.mem_cons.mp h with rfl | h
    · exact ha.1
    · exact pr_aS_in ha.2 e h
theorem pr_aS_app {ms : List pr_M} {mi : pr_M} : ∀ {a b : pr_Co}, pr_aS ms mi a → pr_aS ms mi b → pr_aS ms mi (a ++ b)
  | [], _, _, h => h
  | _ :: _, _, ha, h => ⟨ha.1, pr_aS_app ha.2 h⟩
noncomputable def pr_cS (ms : List pr_M) (mi : pr_M) (co : pr_Co) : Prop := plainName mi.1.cls = true ∧ (∃ e r, co = (0, e) :: r) ∧ ∀ e ∈ co, pr_eS ms mi e
/-- a table is sound: each method's code -/
noncomputable def pr_tS (ms : List pr_M) (cs : List pr_Co) : Prop := ∀ (k : Nat) (m2 : pr_M) (c2 : pr_Co), ms[k]? = some m2 → cs[k]? = some c2 → pr_cS ms m2 c2
theorem pr_run_ok {ms : List pr_M} {cs : List pr_Co} (hT : pr_tS ms cs) : ∀ (n d : Nat) (mi : pr_M) (full rest : pr_Co) (lo : pr_L) (st : List Value) (h : pr_H) (v : Option Value) (h' : pr_H) (pc : Nat),
    (∀ e ∈ full, pr_eS ms mi e) → (∀ e ∈ rest, e ∈ full) → (∀ e r, rest = e :: r → e.1 = pc) → pr_run cs n d full rest lo st h = some (v, h') → pr_R (d + 1) mi pc lo st h v h'
  | 0, d, mi, full, rest, lo, st, h, v, h', pc, hf, hr, hp, hrun => by cases hrun
  | n + 1, d, mi, full, rest, lo, st, h, v, h', pc, hf, hr, hp, hrun => by
    have ih := pr_run_ok hT n
    rw [pr_run_succ] at hrun
    cases rest with
    | nil => cases hrun
    | cons q rest =>
      have hq := hp q rest rfl
      obtain ⟨pc0, e⟩ := q
      have hq : pc0 = pc := hq
      subst hq
      have hS := hf _ (hr _ List.mem_cons_self)
      cases e with
      | inr r => exact hS (d + 1) lo st h v h' hrun
      | inl o =>
        dsimp only at hrun
        generalize hc : (fun (k : Nat) (as : List Value) (h : pr_H) => match d with
          | 0 => (none : Option (Option Value × pr_H))
          | d + 1 => match pr_at cs k with
            | none => none
            | some c2 => pr_fl (lv_args 0 as) (fun lo => pr_run cs n d c2 c2 lo [] h)) = call at hrun
        cases ho : o call lo st h with
        | none => rw [ho] at hrun; cases hrun
        | some q =>
          obtain ⟨pc1, lo1, st1, h1⟩ := q
          rw [ho] at hrun
          dsimp only at hrun
          have hn := pr_nxt_in full rest pc1 (fun e he => hr e (List.mem_cons_of_mem _ he))
          refine hS d call lo st h pc1 lo1 st1 h1 v h' ?_ ho (ih d mi full _ lo1 st1 h1 v h' pc1 hf hn.1 hn.2 hrun)
          intro k m2 as h0 v1 h2 hk hl hcall
          refine ⟨d, rfl, ?_⟩
          rw [← hc] at hcall
          cases d with
          | zero => cases hcall
          | succ d =>
            dsimp only at hcall
            cases hat : pr_at cs k with
            | none => rw [hat] at hcall; cases hcall
            | some c2 =>
              rw [hat] at hcall
              dsimp only at hcall
              rw [pr_fl_eq] at hcall
              rw [pr_at_eq] at hat
              obtain ⟨g1, ⟨e2, r2, g2⟩, g3⟩ := hT k m2 c2 hk hat
              exact pr_enter g1 hl (ih d m2 c2 c2 _ [] h0 v1 h2 0 g3 (fun e he => he) (fun e r h => by rw [g2] at h; cases h; rfl) hcall)
/-- a method's contract out of a run -/
theorem pr_run_met {ms : List pr_M} {cs : List pr_Co} (hT : pr_tS ms cs) {n d k : Nat} {mi : pr_M} {co : pr_Co} {as : List Value} {h : pr_H} {v : Option Value} {h' : pr_H} (hk : ms[k]? = some mi) (hc : cs[k]? = some co) (hl : (lg_sl as).length ≤ mi.2.2.1) (hr : pr_run cs n d co co (lv_args 0 as) [] h = some (v, h')) : pr_Met (d + 1) mi as h v h' := by
  obtain ⟨g1, ⟨e2, r2, g2⟩, g3⟩ := hT k mi co hk hc
  exact pr_enter g1 hl (pr_run_ok hT n d mi co co _ [] h v h' 0 g3 (fun e he => he) (fun e r h => by rw [g2] at h; cases h; rfl) hr)
