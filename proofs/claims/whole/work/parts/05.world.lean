/-! the abstract state beside the machine's -/
def am_rv (ad : Nat → Nat) : am_V → Value
  | .inl x => .int (Int32.ofInt x)
  | .inr (.inl x) => .long (Int64.ofInt x)
  | .inr (.inr k) => .ref (ad k)
def am_fv (ft : List (List Nat)) (ad : Nat → Nat) (f : Nat → Int) (ci : Nat) (rs : List Nat) (j : Nat) : Value := match am_ft ft ci j with
  | 0 => .int (Int32.ofInt (f j))
  | 1 => .int (Int32.ofInt (f j))
  | 2 => .int (Int32.ofInt (f j))
  | 3 => .long (Int64.ofInt (f j))
  | _ => match rs[j]? with
    | some (r + 1) => .ref (ad r)
    | _ => .null
def am_cell (ft : List (List Nat)) (ad : Nat → Nat) (cA : Nat → ClassId) (f : Nat → Int) (c : am_C) : va_E :=
  if c.1 < 3 then .inl (cA c.1, c.2.1, .inl (fun i => Int32.ofInt (f i)))
  else if c.1 = 3 then .inl (cA 3, c.2.1, .inr (.inl (fun i => Int64.ofInt (f i))))
  else .inr (c.1 - 4, (List.range c.2.1).map (am_fv ft ad f (c.1 - 4) c.2.2))
def am_ws (ft : List (List Nat)) (ad : Nat → Nat) (cA : Nat → ClassId) (μ : am_M) : va_W := μ.1.mapIdx (fun k c => (ad k, am_cell ft ad cA (μ.2.2 k) c))
def am_tys (cA : Nat → ClassId) : List (ClassId × FieldType) := [(cA 0, .int), (cA 1, .byte), (cA 2, .boolean), (cA 3, .long)]
theorem am_ws_len {ft : List (List Nat)} {ad : Nat → Nat} {cA : Nat → ClassId} {μ : am_M} : (am_ws ft ad cA μ).length = μ.1.length := by simp [am_ws]
theorem am_ws_get {ft : List (List Nat)} {ad : Nat → Nat} {cA : Nat → ClassId} {μ : am_M} {k : Nat} {c : am_C} (h : μ.1[k]? = some c) : (am_ws ft ad cA μ)[k]? = some (ad k, am_cell ft ad cA (μ.2.2 k) c) := by
  unfold am_ws
  rw [List.getElem?_mapIdx, h]
  rfl
theorem am_cell_a {ft : List (List Nat)} {ad : Nat → Nat} {cA : Nat → ClassId} {f : Nat → Int} {kd N : Nat} {rs : List Nat} (h : kd < 3) : am_cell ft ad cA f (kd, N, rs) = .inl (cA kd, N, .inl (fun i => Int32.ofInt (f i))) := by
  unfold am_cell
  rw [if_pos h]
theorem am_cell_l {ft : List (List Nat)} {ad : Nat → Nat} {cA : Nat → ClassId} {f : Nat → Int} {N : Nat} {rs : List Nat} : am_cell ft ad cA f (3, N, rs) = .inl (cA 3, N, .inr (.inl (fun i => Int64.ofInt (f i)))) := by
  unfold am_cell
  rw [if_neg (by show ¬ (3 < 3); omega), if_pos rfl]
theorem am_cell_o {ft : List (List Nat)} {ad : Nat → Nat} {cA : Nat → ClassId} {f : Nat → Int} {ci N : Nat} {rs : List Nat} : am_cell ft ad cA f (4 + ci, N, rs) = .inr (ci, (List.range N).map (am_fv ft ad f ci rs)) := by
  unfold am_cell
  rw [if_neg (by show ¬ (4 + ci < 3); omega), if_neg (by show ¬ (4 + ci = 3); omega)]
  show Sum.inr (4 + ci - 4, (List.range N).map (am_fv ft ad f (4 + ci - 4) rs)) = _
  rw [Nat.add_sub_cancel_left]
/-- only the cell k has changed -/
theorem am_ws_set {ft : List (List Nat)} {ad : Nat → Nat} {cA : Nat → ClassId} {μ μ' : am_M} {k : Nat} {c c' : am_C} (h : μ.1[k]? = some c) (h1 : ∀ i, i ≠ k → μ'.1[i]? = μ.1[i]?) (h2 : ∀ i, i ≠ k → μ'.2.2 i = μ.2.2 i) (h3 : μ'.1[k]? = some c') : am_ws ft ad cA μ' = (am_ws ft ad cA μ).set k (ad k, am_cell ft ad cA (μ'.2.2 k) c') := by
  apply List.ext_getElem?
  intro i
  have hk : k < (am_ws ft ad cA μ).length := by rw [am_ws_len]; exact (List.getElem?_eq_some_iff.mp h).1
  by_cases e : i = k
  · subst e
    rw [List.getElem?_set_self hk, am_ws_get h3]
  · rw [List.getElem?_set_ne (Ne.symm e)]
    unfold am_ws
    rw [List.getElem?_mapIdx, List.getElem?_mapIdx, h1 i e, h2 i e]
def am_ext (n : Nat) (ad ad' : Nat → Nat) : Prop := ∀ k, (k < n ∨ 1000 ≤ k) → ad' k = ad k
theorem am_ext.rf {n : Nat} {ad : Nat → Nat} : am_ext n ad ad := fun _ _ => rfl
theorem am_ext.tr {n m : Nat} {a b c : Nat → Nat} (h : am_ext n a b) (k : am_ext m b c) (hn : n ≤ m) : am_ext n a c := fun i hi => (k i (hi.elim (fun z => Or.inl (Nat.lt_of_lt_of_le z hn)) Or.inr)).trans (h i hi)
theorem am_rv_ext {n : Nat} {ad ad' : Nat → Nat} (h : am_ext n ad ad') {v : am_V} (hv : am_okV n v) : am_rv ad' v = am_rv ad v := by
  match v, hv with
  | .inl _, _ => rfl
  | .inr (.inl _), _ => rfl
  | .inr (.inr k), hv => exact congrArg Value.ref (h k hv)
theorem am_rvs_ext {n : Nat} {ad ad' : Nat → Nat} (h : am_ext n ad ad') {S : List am_V} (hv : ∀ v ∈ S, am_okV n v) : S.map (am_rv ad') = S.map (am_rv ad) := List.map_congr_left (fun v hm => am_rv_ext h (hv v hm))
theorem am_fv_ext {ft : List (List Nat)} {n : Nat} {ad ad' : Nat → Nat} (h : am_ext n ad ad') {f : Nat → Int} {ci : Nat} {rs : List Nat} (hr : ∀ j r : Nat, rs[j]? = some (r + 1) → (r < n ∨ 1000 ≤ r)) (j : Nat) : am_fv ft ad' f ci rs j = am_fv ft ad f ci rs j := by
  unfold am_fv
  split
  · rfl
  · rfl
  · rfl
  · rfl
  · split
    next r hr' => exact congrArg Value.ref (h r (hr j r hr'))
    next => rfl
theorem am_cell_ext {ft : List (List Nat)} {n : Nat} {ad ad' : Nat → Nat} {cA : Nat → ClassId} (h : am_ext n ad ad') {f : Nat → Int} {c : am_C} (hr : ∀ j r : Nat, c.2.2[j]? = some (r + 1) → (r < n ∨ 1000 ≤ r)) : am_cell ft ad' cA f c = am_cell ft ad cA f c := by
  unfold am_cell
  split
  · rfl
  · split
    · rfl
    · congr 2
      apply List.map_congr_left
      intro j _
      exact am_fv_ext h hr j
/-- the same cells, seen with more addresses -/
theorem am_ws_ext {ft : List (List Nat)} {n : Nat} {ad ad' : Nat → Nat} {cA : Nat → ClassId} {μ : am_M} (I : am_R ft μ) (hn : n = μ.1.length) (h : am_ext n ad ad') : am_ws ft ad' cA μ = am_ws ft ad cA μ := by
  subst hn
  apply List.ext_getElem?
  intro i
  cases hc : μ.1[i]? with
  | none =>
    unfold am_ws
    rw [List.getElem?_mapIdx, List.getElem?_mapIdx, hc]
    rfl
  | some c =>
    rw [am_ws_get hc, am_ws_get hc, h i (Or.inl (List.getElem?_eq_some_iff.mp hc).1), am_cell_ext h (I.2 i c (am_dsc_rw I.1 hc)).2]
theorem am_ws_new {ft : List (List Nat)} {ad : Nat → Nat} {cA : Nat → ClassId} {μ : am_M} (I : am_R ft μ) (hl : μ.1.length < 1000) (c : am_C) (q : Nat) : am_ws ft (fun i => if i = μ.1.length then q else ad i) cA (μ.1 ++ [c], μ.2.1, am_row μ.2.2 μ.1.length (fun _ => 0)) = am_ws ft ad cA μ ++ [(q, am_cell ft (fun i => if i = μ.1.length then q else ad i) cA (fun _ => 0) c)] := by
  have hx : am_ext μ.1.length ad (fun i => if i = μ.1.length then q else ad i) := fun i hi => if_neg (by omega)
  apply List.ext_getElem?
  intro i
  by_cases hi : i < μ.1.length
  · have h1 : i < (am_ws ft ad cA μ).length := by rw [am_ws_len]; exact hi
    rw [List.getElem?_append_left h1]
    have hc : μ.1[i]? = some μ.1[i] := List.getElem?_eq_getElem hi
    have hc2 : (μ.1 ++ [c])[i]? = some μ.1[i] := by rw [List.getElem?_append_left hi]; exact hc
    rw [am_ws_get hc, am_ws_get (μ := (μ.1 ++ [c], μ.2.1, am_row μ.2.2 μ.1.length (fun _ => 0))) hc2]
    show some ((if i = μ.1.length then q else ad i), am_cell ft _ cA (am_row μ.2.2 μ.1.length (fun _ => 0) i) μ.1[i]) = _
    rw [if_neg (by omega), am_row_ne (by omega), am_cell_ext hx (I.2 i _ (am_dsc_rw I.1 hc)).2]
  · rw [List.getElem?_append_right (by rw [am_ws_len]; omega), am_ws_len]
    by_cases e : i = μ.1.length
    · subst e
      have hc2 : (μ.1 ++ [c])[μ.1.length]? = some c := by simp
      rw [am_ws_get (μ := (μ.1 ++ [c], μ.2.1, am_row μ.2.2 μ.1.length (fun _ => 0))) hc2, Nat.sub_self]
      show some ((if μ.1.length = μ.1.length then q else ad μ.1.length), am_cell ft _ cA (am_row μ.2.2 μ.1.length (fun _ => 0) μ.1.length) c) = _
      rw [if_pos rfl, am_row_eq]
      rfl
    · have h1 : (am_ws ft (fun i => if i = μ.1.length then q else ad i) cA (μ.1 ++ [c], μ.2.1, am_row μ.2.2 μ.1.length (fun _ => 0)))[i]? = none := by
        apply List.getElem?_eq_none
        rw [am_ws_len]
        simp
        omega
      rw [h1]
      symm
      apply List.getElem?_eq_none
      simp
      omega
/-! locals -/
def am_prs (ad : Nat → Nat) (L : am_L) : List (Nat × Value) := (List.range L.length).filterMap (fun i => match L[i]? with
  | some (some v) => some (i, am_rv ad v)
  | _ => none)
theorem am_prs_mem {ad : Nat → Nat} {L : am_L} {q : Nat × Value} : q ∈ am_prs ad L ↔ ∃ v, L[q.1]? = some (some v) ∧ q.2 = am_rv ad v := by
  unfold am_prs
  rw [List.mem_filterMap]
  constructor
  · rintro ⟨i, hi, h⟩
    split at h
    next v hv =>
      cases h
      exact ⟨v, hv, rfl⟩
    next => cases h
  · rintro ⟨v, h1, h2⟩
    refine ⟨q.1, List.mem_range.mpr (List.getElem?_eq_some_iff.mp h1).1, ?_⟩
    rw [h1]
    show some (q.1, am_rv ad v) = some q
    rw [← h2]
def am_lv (ad : Nat → Nat) (ls : Array Slot) (nL : Nat) (L : am_L) : Prop := lv_has ls nL (am_prs ad L) ∧ L.length = nL
theorem am_lv.get {ad : Nat → Nat} {ls : Array Slot} {nL : Nat} {L : am_L} (h : am_lv ad ls nL L) {a : Nat} {v : am_V} (hv : L[a]? = some (some v)) : ls[a]? = some (.val (am_rv ad v)) := h.1.2.2 (a, am_rv ad v) (am_prs_mem.mpr ⟨v, hv, rfl⟩)
theorem am_kill_len {ks : List Nat} : ∀ {L : am_L}, (am_kill ks L).length = L.length := by
  induction ks with
  | nil => intro L; rfl
  | cons k ks ih => intro L; exact (ih (L := L.set k none)).trans List.length_set
theorem am_set_get {L : am_L} {a i : Nat} {x : Option am_V} {v : am_V} (h : (L.set a x)[i]? = some (some v)) : (i = a ∧ x = some v) ∨ (i ≠ a ∧ L[i]? = some (some v)) := by
  by_cases e : i = a
  · subst e
    have hi : i < L.length := by rw [← List.length_set (as := L) (i := i) (a := x)]; exact (List.getElem?_eq_some_iff.mp h).1
    rw [List.getElem?_set_self hi] at h
    exact Or.inl ⟨rfl, Option.some.inj h⟩
  · rw [List.getElem?_set_ne (Ne.symm e)] at h
    exact Or.inr ⟨e, h⟩
theorem am_kill_get {ks : List Nat} {i : Nat} {v : am_V} : ∀ {L : am_L}, (am_kill ks L)[i]? = some (some v) → L[i]? = some (some v) := by
  induction ks with
  | nil => intro L h; exact h
  | cons k ks ih =>
    intro L h
    rcases am_set_get (ih (L := L.set k none) h) with ⟨-, z⟩ | ⟨-, z⟩
    · cases z
    · exact z
theorem am_lv.kill {ad : Nat → Nat} {ls : Array Slot} {nL : Nat} {L : am_L} (h : am_lv ad ls nL L) (ks : List Nat) : am_lv ad ls nL (am_kill ks L) := by
  refine ⟨⟨h.1.1, h.1.2.1, fun q hq => ?_⟩, am_kill_len.trans h.2⟩
  obtain ⟨v, h1, h2⟩ := am_prs_mem.mp hq
  exact h.1.2.2 q (am_prs_mem.mpr ⟨v, am_kill_get h1, h2⟩)
theorem am_lv.ext {n : Nat} {ad ad' : Nat → Nat} (hx : am_ext n ad ad') {ls : Array Slot} {nL : Nat} {L : am_L} (h : am_lv ad ls nL L) (hv : ∀ v, some v ∈ L → am_okV n v) : am_lv ad' ls nL L := by
  refine ⟨⟨h.1.1, h.1.2.1, fun q hq => ?_⟩, h.2⟩
  obtain ⟨v, h1, h2⟩ := am_prs_mem.mp hq
  exact h.1.2.2 q (am_prs_mem.mpr ⟨v, h1, by rw [h2]; exact am_rv_ext hx (hv v (List.mem_of_getElem? h1))⟩)
theorem am_st_len {L : am_L} {a : Nat} {v : am_V} : (am_st L a v).length = L.length := by
  unfold am_st
  match a with
  | 0 =>
    dsimp only
    split <;> simp
  | k + 1 =>
    dsimp only
    split <;> split <;> simp
theorem am_st_get {L : am_L} {a i : Nat} {v u : am_V} (h : (am_st L a v)[i]? = some (some u)) : (i = a ∧ u = v) ∨ (i ≠ a ∧ L[i]? = some (some u) ∧ ¬ (i + 1 = a ∧ am_tag u = 1) ∧ (am_tag v = 1 → i ≠ a + 1)) := by
  have key : ∀ L1 : am_L, (∀ w, i ≠ a → L1[i]? = some (some w) → L[i]? = some (some w) ∧ ¬ (i + 1 = a ∧ am_tag w = 1)) → (if am_tag v = 1 then (L1.set a (some v)).set (a + 1) none else L1.set a (some v))[i]? = some (some u) → (i = a ∧ u = v) ∨ (i ≠ a ∧ L[i]? = some (some u) ∧ ¬ (i + 1 = a ∧ am_tag u = 1) ∧ (am_tag v = 1 → i ≠ a + 1)) := by
    intro L1 h1 h2
    by_cases ht : am_tag v = 1
    · rw [if_pos ht] at h2
      rcases am_set_get h2 with ⟨-, z⟩ | ⟨z0, z⟩
      · cases z
      · rcases am_set_get z with ⟨y0, y⟩ | ⟨y0, y⟩
        · exact Or.inl ⟨y0, (Option.some.inj y).symm⟩
        · exact Or.inr ⟨y0, (h1 u y0 y).1, (h1 u y0 y).2, fun _ => z0⟩
    · rw [if_neg ht] at h2
      rcases am_set_get h2 with ⟨y0, y⟩ | ⟨y0, y⟩
      · exact Or.inl ⟨y0, (Option.some.inj y).symm⟩
      · exact Or.inr ⟨y0, (h1 u y0 y).1, (h1 u y0 y).2, fun z => absurd z ht⟩
  unfold am_st at h
  match a, h, key with
  | 0, h, key => exact key L (fun w _ z => ⟨z, fun q => by omega⟩) h
  | k + 1, h, key =>
    refine key (if am_isJ L[k]? = true then L.set k none else L) (fun w hw z => ?_) h
    by_cases hj : am_isJ L[k]? = true
    · rw [if_pos hj] at z
      rcases am_set_get z with ⟨-, y⟩ | ⟨y0, y⟩
      · cases y
      · exact ⟨y, fun q => y0 (by omega)⟩
    · rw [if_neg hj] at z
      refine ⟨z, fun q => ?_⟩
      have e : i = k := by omega
      subst e
      rw [z] at hj
      match w, q.2 with
      | .inr (.inl x), _ => exact hj rfl
theorem am_cat_rv (ad : Nat → Nat) (v : am_V) : (am_rv ad v).category = am_cat v := by
  match v with
  | .inl _ => rfl
  | .inr (.inl _) => rfl
  | .inr (.inr _) => rfl
theorem am_tag_cat {v : am_V} : (am_rv (fun k => k) v).category = 2 ↔ am_tag v = 1 := by
  match v with
  | .inl _ => simp [am_rv, am_tag, Value.category]
  | .inr (.inl _) => simp [am_rv, am_tag, Value.category]
  | .inr (.inr _) => simp [am_rv, am_tag, Value.category]
theorem am_cat2 {ad : Nat → Nat} {v : am_V} : (am_rv ad v).category = 2 ↔ am_tag v = 1 := by
  match v with
  | .inl _ => simp [am_rv, am_tag, Value.category]
  | .inr (.inl _) => simp [am_rv, am_tag, Value.category]
  | .inr (.inr _) => simp [am_rv, am_tag, Value.category]
theorem am_lv.st1 {ad : Nat → Nat} {ls ls' : Array Slot} {nL : Nat} {L : am_L} (h : am_lv ad ls nL L) {a : Nat} {v : am_V} (hv : ¬ am_tag v = 1) (h' : lv_has ls' nL ((a, am_rv ad v) :: (am_prs ad L).filter (fun q => !(q.1 == a) && !(q.1 + 1 == a && q.2.category == 2)))) : am_lv ad ls' nL (am_st L a v) := by
  refine ⟨⟨h'.1, h'.2.1, fun q hq => h'.2.2 q ?_⟩, am_st_len.trans h.2⟩
  obtain ⟨u, h1, h2⟩ := am_prs_mem.mp hq
  rcases am_st_get h1 with ⟨e1, e2⟩ | ⟨e1, e2, e3, -⟩
  · exact List.mem_cons.mpr (Or.inl (by rw [← e1, ← e2, ← h2]))
  · refine List.mem_cons_of_mem _ (List.mem_filter.mpr ⟨am_prs_mem.mpr ⟨u, e2, h2⟩, ?_⟩)
    have e4 : ¬ (q.1 + 1 = a ∧ q.2.category = 2) := fun z => e3 ⟨z.1, by rw [h2] at z; exact am_cat2.mp z.2⟩
    simp only [Bool.and_eq_true, Bool.not_eq_true', beq_eq_false_iff_ne, ne_eq, Bool.and_eq_false_iff]
    refine ⟨e1, ?_⟩
    by_cases z : q.1 + 1 = a
    · exact Or.inr (fun y => e4 ⟨z, y⟩)
    · exact Or.inl z
theorem am_lv.st2 {ad : Nat → Nat} {ls ls' : Array Slot} {nL : Nat} {L : am_L} (h : am_lv ad ls nL L) {a : Nat} {v : am_V} (hv : am_tag v = 1) (h' : lv_has ls' nL ((a, am_rv ad v) :: (am_prs ad L).filter (fun q => !(q.1 == a) && (!(q.1 == a + 1) && !(q.1 + 1 == a && q.2.category == 2))))) : am_lv ad ls' nL (am_st L a v) := by
  refine ⟨⟨h'.1, h'.2.1, fun q hq => h'.2.2 q ?_⟩, am_st_len.trans h.2⟩
  obtain ⟨u, h1, h2⟩ := am_prs_mem.mp hq
  rcases am_st_get h1 with ⟨e1, e2⟩ | ⟨e1, e2, e3, e5⟩
  · exact List.mem_cons.mpr (Or.inl (by rw [← e1, ← e2, ← h2]))
  · refine List.mem_cons_of_mem _ (List.mem_filter.mpr ⟨am_prs_mem.mpr ⟨u, e2, h2⟩, ?_⟩)
    have e4 : ¬ (q.1 + 1 = a ∧ q.2.category = 2) := fun z => e3 ⟨z.1, by rw [h2] at z; exact am_cat2.mp z.2⟩
    simp only [Bool.and_eq_true, Bool.not_eq_true', beq_eq_false_iff_ne, ne_eq, Bool.and_eq_false_iff]
    refine ⟨e1, e5 hv, ?_⟩
    by_cases z : q.1 + 1 = a
    · exact Or.inr (fun y => e4 ⟨z, y⟩)
    · exact Or.inl z
theorem am_ent_args {ad : Nat → Nat} : ∀ (vs : List am_V) (pre : am_L) (rest : am_L) (q : Nat × Value), (∃ v, (am_ent0 vs ++ rest)[q.1]? = some (some v) ∧ q.2 = am_rv ad v ∧ q.1 < (am_ent0 vs).length) → (pre.length + q.1, q.2) ∈ lv_args pre.length (vs.map (am_rv ad))
  | [], pre, rest, q, ⟨v, h1, h2, h3⟩ => absurd h3 (Nat.not_lt_zero _)
  | u :: vs, pre, rest, q, ⟨v, h1, h2, h3⟩ => by
    by_cases ht : am_tag u = 1
    · have e0 : am_ent0 (u :: vs) = some u :: none :: am_ent0 vs := by simp [am_ent0, ht]
      rw [e0] at h1 h3
      show _ ∈ (pre.length, am_rv ad u) :: lv_args (if (am_rv ad u).category = 2 then pre.length + 2 else pre.length + 1) (vs.map (am_rv ad))
      rw [if_pos (am_cat2.mpr ht)]
      obtain ⟨i, w⟩ := q
      match i, h1, h3 with
      | 0, h1, _ =>
        simp at h1
        subst h1
        exact List.mem_cons.mpr (Or.inl (by rw [← h2]; rfl))
      | 1, h1, _ => simp at h1
      | i + 2, h1, h3 =>
        refine List.mem_cons_of_mem _ ?_
        have := am_ent_args vs (pre ++ [none, none]) rest (i, w) ⟨v, by simpa using h1, h2, by simpa using h3⟩
        simp only [List.length_append, List.length_cons, List.length_nil] at this
        have e : pre.length + (i + 2) = pre.length + (0 + 1 + 1) + i := by omega
        show (pre.length + (i + 2), w) ∈ _
        rw [e]
        exact this
    · have e0 : am_ent0 (u :: vs) = some u :: am_ent0 vs := by simp [am_ent0, ht]
      rw [e0] at h1 h3
      show _ ∈ (pre.length, am_rv ad u) :: lv_args (if (am_rv ad u).category = 2 then pre.length + 2 else pre.length + 1) (vs.map (am_rv ad))
      rw [if_neg (fun z => ht (am_cat2.mp z))]
      obtain ⟨i, w⟩ := q
      match i, h1, h3 with
      | 0, h1, _ =>
        simp at h1
        subst h1
        exact List.mem_cons.mpr (Or.inl (by rw [← h2]; rfl))
      | i + 1, h1, h3 =>
        refine List.mem_cons_of_mem _ ?_
        have := am_ent_args vs (pre ++ [none]) rest (i, w) ⟨v, by simpa using h1, h2, by simpa using h3⟩
        simp only [List.length_append, List.length_cons, List.length_nil] at this
        have e : pre.length + (i + 1) = pre.length + (0 + 1) + i := by omega
        show (pre.length + (i + 1), w) ∈ _
        rw [e]
        exact this
theorem am_ent_len {N : Nat} {vs : List am_V} (h : (am_ent0 vs).length ≤ N) : (am_ent N vs).length = N := by
  unfold am_ent
  simp
  omega
theorem am_sl_lg {ad : Nat → Nat} : ∀ (vs : List am_V), (lg_sl (vs.map (am_rv ad))).length = (am_ent0 vs).length
  | [] => rfl
  | u :: vs => by
    have ih := am_sl_lg (ad := ad) vs
    by_cases ht : am_tag u = 1
    · have hc : (am_rv ad u).category = 2 := am_cat2.mpr ht
      simp only [lg_sl, List.map_cons, List.flatMap_cons, am_ent0, ht, hc, if_true, List.length_append, List.length_cons, List.length_nil] at ih ⊢
      omega
    · have hc : ¬ (am_rv ad u).category = 2 := fun z => ht (am_cat2.mp z)
      simp only [lg_sl, List.map_cons, List.flatMap_cons, am_ent0, ht, hc, if_false, List.length_append, List.length_cons, List.length_nil] at ih ⊢
      omega
/-- the locals with which a method begins -/
theorem am_lv_entry {ad : Nat → Nat} {N : Nat} {vs : List am_V} (h : (am_ent0 vs).length ≤ N) : am_lv ad ((lg_sl (vs.map (am_rv ad)) ++ List.replicate (N - (lg_sl (vs.map (am_rv ad))).length) Slot.unset).toArray) N (am_ent N vs) := by
  have hl := lv_entry (vs.map (am_rv ad)) (n := N) (by rw [am_sl_lg]; exact h)
  refine ⟨⟨hl.1, hl.2.1, fun q hq => hl.2.2 q ?_⟩, am_ent_len h⟩
  obtain ⟨v, h1, h2⟩ := am_prs_mem.mp hq
  have h3 : q.1 < (am_ent0 vs).length := by
    rcases Nat.lt_or_ge q.1 (am_ent0 vs).length with z | z
    · exact z
    · unfold am_ent at h1
      rw [List.getElem?_append_right z] at h1
      cases List.eq_of_mem_replicate (List.mem_of_getElem? h1)
  have := am_ent_args vs [] (List.replicate (N - (am_ent0 vs).length) none) q ⟨v, h1, h2, h3⟩
  simpa using this
