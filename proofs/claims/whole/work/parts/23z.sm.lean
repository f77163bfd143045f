/-! every entry is small -/
def am_sml (es : List (Nat × am_E)) : Bool := es.all (fun q => am_small q.2)
set_option maxRecDepth 100000 in
theorem sm_all : am_progs.all (fun c => c.all am_sml) = true := by decide +kernel
theorem am_hsm (mid pc : Nat) (e : am_E) (h : am_code mid pc = some e) : am_small e = true := by
  have h1 : (pc, e) ∈ am_prog mid := am_find_mem h
  unfold am_prog at h1
  rw [List.getD_eq_getElem?_getD, List.getD_eq_getElem?_getD] at h1
  cases hc : am_progs[mid / 40]? with
  | none => rw [hc] at h1; simp at h1
  | some c =>
    rw [hc] at h1
    have h3 := List.all_eq_true.mp sm_all c (List.mem_of_getElem? hc)
    cases hd : c[mid % 40]? with
    | none => rw [Option.getD_some, hd] at h1; simp at h1
    | some es =>
      rw [Option.getD_some, hd] at h1
      have h4 := List.all_eq_true.mp h3 es (List.mem_of_getElem? hd)
      exact List.all_eq_true.mp h4 (pc, e) h1
