/-! SPECS OVER THE CONTENTS: frames, calls, numbers -/
/-- all cells but those of cs, and all fields of 80 but those of js, stay -/
def Fr (cs js : List Nat) (σ σ' : am_Sg) : Prop := (∀ k, ¬ k = 80 → cs.contains k = false → σ' k = σ k) ∧ ∀ j, js.contains j = false → σ' 80 j = σ 80 j
section FRS
variable {cs js cs' js' : List Nat} {σ σ' σ'' : am_Sg} {k j : Nat} {x : Int} {f : Nat → Int}
theorem Fr.rf : Fr cs js σ σ := ⟨fun _ _ _ => rfl, fun _ _ => rfl⟩
theorem Fr.tr (h : Fr cs js σ σ') (h' : Fr cs js σ' σ'') : Fr cs js σ σ'' := ⟨fun k h8 hk => (h'.1 k h8 hk).trans (h.1 k h8 hk), fun j hj => (h'.2 j hj).trans (h.2 j hj)⟩
theorem fr_sub {a b : List Nat} (h : a.all (fun k => b.contains k) = true) {k : Nat} (hk : b.contains k = false) : a.contains k = false := by
  cases hc : a.contains k with
  | false => rfl
  | true =>
    have := List.all_eq_true.mp h k (List.contains_iff_mem.mp hc)
    rw [hk] at this
    cases this
theorem Fr.mono (h : Fr cs js σ σ') (h1 : cs.all (fun k => cs'.contains k) = true) (h2 : js.all (fun k => js'.contains k) = true) : Fr cs' js' σ σ' := ⟨fun k h8 hk => h.1 k h8 (fr_sub h1 hk), fun j hj => h.2 j (fr_sub h2 hj)⟩
theorem Fr.get (h : Fr cs js σ σ') (k : Nat) (h8 : ¬ k = 80) (hk : cs.contains k = false) : σ' k = σ k := h.1 k h8 hk
theorem Fr.fld (h : Fr cs js σ σ') (j : Nat) (hj : js.contains j = false) : σ' 80 j = σ 80 j := h.2 j hj
theorem Fr.upd (h : Fr cs js σ σ') (hk : cs.contains k = true) (h8 : ¬ k = 80) : Fr cs js σ (am_upd σ' k j x) := by
  refine ⟨fun a h8' ha => ?_, fun i hi => ?_⟩
  · have : ¬ a = k := fun z => by rw [z, hk] at ha; cases ha
    funext i
    show (if a = k then _ else σ' a i) = σ a i
    rw [if_neg this, h.1 a h8' ha]
  · show (if 80 = k then _ else σ' 80 i) = σ 80 i
    rw [if_neg (fun z => h8 z.symm), h.2 i hi]
theorem Fr.upf (h : Fr cs js σ σ') (hj : js.contains j = true) : Fr cs js σ (am_upd σ' 80 j x) := by
  refine ⟨fun a h8' ha => ?_, fun i hi => ?_⟩
  · funext i
    show (if a = 80 then _ else σ' a i) = σ a i
    rw [if_neg h8', h.1 a h8' ha]
  · have : ¬ i = j := fun z => by rw [z, hj] at hi; cases hi
    show (if 80 = 80 then (if i = j then x else σ' 80 i) else σ' 80 i) = σ 80 i
    rw [if_pos rfl, if_neg this, h.2 i hi]
theorem Fr.row (h : Fr cs js σ σ') (hk : cs.contains k = true) (h8 : ¬ k = 80) : Fr cs js σ (am_row σ' k f) := by
  refine ⟨fun a h8' ha => ?_, fun i hi => ?_⟩
  · have : ¬ a = k := fun z => by rw [z, hk] at ha; cases ha
    funext i
    show (if a = k then _ else σ' a i) = σ a i
    rw [if_neg this, h.1 a h8' ha]
  · show (if 80 = k then _ else σ' 80 i) = σ 80 i
    rw [if_neg (fun z => h8 z.symm), h.2 i hi]
end FRS
theorem ua (σ : am_Sg) (k j : Nat) (x : Int) (a i : Nat) : am_upd σ k j x a i = if a = k then (if i = j then x else σ a i) else σ a i := rfl
theorem ra (σ : am_Sg) (k : Nat) (f : Nat → Int) (a i : Nat) : am_row σ k f a i = if a = k then f i else σ a i := rfl
theorem un (σ : am_Sg) {k j : Nat} {x : Int} {a : Nat} (h : ¬ a = k) : am_upd σ k j x a = σ a := by funext i; rw [ua, if_neg h]
theorem rn (σ : am_Sg) {k : Nat} {f : Nat → Int} {a : Nat} (h : ¬ a = k) : am_row σ k f a = σ a := by funext i; rw [ra, if_neg h]
theorem re (σ : am_Sg) {k : Nat} {f : Nat → Int} : am_row σ k f k = f := by funext i; rw [ra, if_pos rfl]
section CALLS
variable {X a : Nat} {vs : List am_V} {L : am_L} {σ σ' : am_Sg} {v : Int}
theorem vI_of (h : vv X a 0 L [] σ = some (some (vI v), σ')) (hL : am_ent (am_mL a) vs = L) : vcI X a vs σ = some (v, σ') := by
  unfold vcI
  rw [hL, h]
theorem vJ_of (h : vv X a 0 L [] σ = some (some (vJ v), σ')) (hL : am_ent (am_mL a) vs = L) : vcJ X a vs σ = some (v, σ') := by
  unfold vcJ
  rw [hL, h]
theorem vV_of (h : vv X a 0 L [] σ = some (none, σ')) (hL : am_ent (am_mL a) vs = L) : vcV X a vs σ = some σ' := by
  unfold vcV
  rw [hL, h]
end CALLS
theorem bsome {α β : Type} (x : α) (f : α → Option β) : (some x).bind f = f x := rfl
theorem okZ0 : am_okT 2 0 = true := rfl
theorem okZ1 : am_okT 2 1 = true := rfl
theorem tn_nat (n : Nat) : ((n : Int)).toNat = n := Int.toNat_natCast n
/-- a whole number that is the cast of a Nat, and one that an index names -/
theorem w32_nat {n : Nat} (h : n < 2147483648) : w32 (n : Int) = (n : Int) := w32_id (by omega) (by omega)
theorem w32_idem (x : Int) : w32 (w32 x) = w32 x := w32_id (am_w32_rng x).1 (am_w32_rng x).2
theorem w32_ad {i : Nat} {c : Nat} (h : i + c < 2147483648) : w32 ((i : Int) + (c : Int)) = ((i + c : Nat) : Int) := by rw [w32_id (by omega) (by omega)]; omega
theorem w32_s1 {i : Nat} (h : i + 1 < 2147483648) : w32 ((i : Int) + 1) = ((i + 1 : Nat) : Int) := by rw [w32_id (by omega) (by omega)]; omega
theorem in_rng {i N : Int} {α : Type} {A B : α} (h0 : 0 ≤ i) (h1 : i < N) : (if 0 ≤ i ∧ i < N then A else B) = A := if_pos ⟨h0, h1⟩
/-- a scene: its 46 cells -/
def rs (f : Nat → Int) : Nat → Int := fun j => if j < 46 then f j else 0
theorem rs_in {f : Nat → Int} {j : Nat} (h : j < 46) : rs f j = f j := if_pos h
theorem rs_ext {f g : Nat → Int} (h : ∀ j, j < 46 → f j = g j) : rs f = rs g := by
  funext j
  unfold rs
  by_cases z : j < 46
  · rw [if_pos z, if_pos z, h j z]
  · rw [if_neg z, if_neg z]
theorem rs_at {f g : Nat → Int} (h : rs f = rs g) {j : Nat} (hj : j < 46) : f j = g j := by rw [← rs_in (f := f) hj, h, rs_in hj]
/-- what the text tells: the cells of told -/
def tl (σ : am_Sg) : am_Sg := fun k => if 7 ≤ k ∧ k < 27 then σ k else fun _ => 0
theorem tl_in {σ : am_Sg} {k : Nat} (h : 7 ≤ k ∧ k < 27) : tl σ k = σ k := if_pos h
theorem tl_fr {cs js : List Nat} {σ σ' : am_Sg} (h : Fr cs js σ σ') (hd : cs.all (fun k => decide (k < 7) || decide (27 ≤ k)) = true) : tl σ' = tl σ := by
  funext k
  unfold tl
  split
  · next z =>
    refine h.1 k (by omega) ?_
    cases hc : cs.contains k with
    | false => rfl
    | true =>
      have := List.all_eq_true.mp hd k (List.contains_iff_mem.mp hc)
      simp at this
      omega
  · rfl
