/-! the two constructors, run by the kernel -/
noncomputable def pr_hp (r : Option (Option Value × pr_H)) : pr_H := match r with
  | some (_, h) => h
  | none => []
def pr_isV (r : Option (Option Value × pr_H)) : Bool := match r with
  | some (none, _) => true
  | _ => false
theorem pr_isV_eq {r : Option (Option Value × pr_H)} (h : pr_isV r = true) : r = some (none, pr_hp r) := by
  match r, h with
  | some (none, h), _ => rfl
noncomputable def hx0 : pr_H := [.inr (10, [.null, .null, .null, .null, .null, .null, .null, .null, .null, .null, .null, .null, .null, .int 0, .int 0, .int 0, .int 0])]
noncomputable def rX : Option (Option Value × pr_H) := pr_run pr_cs 3000 12 qc_0 qc_0 (lv_args 0 [.ref 0]) [] hx0
set_option maxRecDepth 100000 in
theorem rX_ok : (pr_isV rX && Nat.beq (pr_len (pr_hp rX)) 84) = true := by decide +kernel
noncomputable def hX : pr_H := pr_hp rX
noncomputable def hm0 : pr_H := hX ++ [.inr (14, [.int 0, .null, .null, .null, .int 0, .null, .null, .null, .int 0, .null, .int 0, .int 0, .int 0, .int 0, .long 0, .int 0, .int 0, .int 0, .int 0, .null, .null, .null, .int 0, .int 0, .int 0, .int 0, .int 0, .null, .null, .null, .int 0, .null, .null, .null, .null, .null, .int 0, .null])]
noncomputable def rM : Option (Option Value × pr_H) := pr_run pr_cs 3000 12 qc_15 qc_15 (lv_args 0 [.ref 84]) [] hm0
set_option maxRecDepth 100000 in
theorem rM_ok : pr_isV rM = true := by decide +kernel
