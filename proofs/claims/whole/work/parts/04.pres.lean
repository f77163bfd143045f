/-! what holds of every state of the abstract machine -/
def am_okV (n : Nat) : am_V → Prop
  | .inl x => -2147483648 ≤ x ∧ x < 2147483648
  | .inr (.inl x) => -9223372036854775808 ≤ x ∧ x < 9223372036854775808
  | .inr (.inr k) => k < n ∨ 1000 ≤ k
def am_tyc (ft : List (List Nat)) (c : am_C) (j : Nat) : Nat := if c.1 < 4 then c.1 else am_ft ft (c.1 - 4) j
def am_R (ft : List (List Nat)) (μ : am_M) : Prop := μ.1.length ≤ 1000 ∧ ∀ (k : Nat) (c : am_C), am_dsc μ k = some c → (∀ j, am_okT (am_tyc ft c j) (μ.2.2 k j) = true) ∧ ∀ j r : Nat, c.2.2[j]? = some (r + 1) → (r < μ.1.length ∨ 1000 ≤ r)
def am_sl (μ : am_M) : Nat := (μ.1.map (fun c => c.2.1)).sum
def am_I (ft : List (List Nat)) (μ : am_M) (L : am_L) (S : List am_V) : Prop := am_R ft μ ∧ (∀ v, some v ∈ L → am_okV μ.1.length v) ∧ ∀ v ∈ S, am_okV μ.1.length v
def am_G (μ μ' : am_M) : Prop := μ.1.length ≤ μ'.1.length ∧ am_sl μ ≤ am_sl μ' ∧ μ'.2.1 = μ.2.1 ∧ ∀ k, 1000 ≤ k → μ'.2.2 k = μ.2.2 k
theorem am_G.rf {μ : am_M} : am_G μ μ := ⟨Nat.le_refl _, Nat.le_refl _, rfl, fun _ _ => rfl⟩
theorem am_G.tr {a b c : am_M} (h : am_G a b) (k : am_G b c) : am_G a c := ⟨Nat.le_trans h.1 k.1, Nat.le_trans h.2.1 k.2.1, k.2.2.1.trans h.2.2.1, fun i hi => (k.2.2.2 i hi).trans (h.2.2.2 i hi)⟩
theorem am_G.upd {μ : am_M} {k j : Nat} {x : Int} (hk : k < 1000) : am_G μ (μ.1, μ.2.1, am_upd μ.2.2 k j x) := ⟨Nat.le_refl _, Nat.le_refl _, rfl, fun i hi => by
  funext z
  show am_upd μ.2.2 k j x i z = _
  unfold am_upd
  rw [if_neg (by omega)]⟩
theorem am_row_ne {σ : Nat → Nat → Int} {k i : Nat} {f : Nat → Int} (h : i ≠ k) : am_row σ k f i = σ i := by
  funext z
  unfold am_row
  rw [if_neg h]
theorem am_row_eq {σ : Nat → Nat → Int} {k : Nat} {f : Nat → Int} : am_row σ k f k = f := by
  funext z
  unfold am_row
  rw [if_pos rfl]
theorem am_upd_ne {σ : Nat → Nat → Int} {k j i : Nat} {x : Int} (h : i ≠ k) : am_upd σ k j x i = σ i := by
  funext z
  unfold am_upd
  rw [if_neg h]
theorem am_G.row {μ : am_M} {k : Nat} {f : Nat → Int} (hk : k < 1000) : am_G μ (μ.1, μ.2.1, am_row μ.2.2 k f) := ⟨Nat.le_refl _, Nat.le_refl _, rfl, fun i hi => am_row_ne (by omega)⟩
theorem am_lt1000 {μ : am_M} {k : Nat} {c : am_C} (hl : μ.1.length ≤ 1000) (h : μ.1[k]? = some c) : k < 1000 := Nat.lt_of_lt_of_le (List.getElem?_eq_some_iff.mp h).1 hl
theorem am_okV.mono {n m : Nat} (h : n ≤ m) {v : am_V} (k : am_okV n v) : am_okV m v := by
  match v, k with
  | .inl _, k => exact k
  | .inr (.inl _), k => exact k
  | .inr (.inr _), k => exact k.elim (fun z => Or.inl (Nat.lt_of_lt_of_le z h)) Or.inr
theorem am_I.push {ft : List (List Nat)} {μ : am_M} {L : am_L} {S : List am_V} {v : am_V} (I : am_I ft μ L S) (h : am_okV μ.1.length v) : am_I ft μ L (v :: S) :=
  ⟨I.1, I.2.1, fun u hu => (List.mem_cons.mp hu).elim (fun e => e ▸ h) (I.2.2 u)⟩
theorem am_I.pop {ft : List (List Nat)} {μ : am_M} {L : am_L} {S : List am_V} {v : am_V} (I : am_I ft μ L (v :: S)) : am_I ft μ L S := ⟨I.1, I.2.1, fun u hu => I.2.2 u (List.mem_cons_of_mem _ hu)⟩
theorem am_I.top {ft : List (List Nat)} {μ : am_M} {L : am_L} {S : List am_V} {v : am_V} (I : am_I ft μ L (v :: S)) : am_okV μ.1.length v := I.2.2 v List.mem_cons_self
theorem am_I.loc {ft : List (List Nat)} {μ : am_M} {L : am_L} {S : List am_V} {v : am_V} {a : Nat} (I : am_I ft μ L S) (h : L[a]? = some (some v)) : am_okV μ.1.length v := I.2.1 v (List.mem_of_getElem? h)
theorem am_mem_set {L : am_L} {a : Nat} {x : Option am_V} {v : am_V} (h : some v ∈ L.set a x) : x = some v ∨ some v ∈ L := by
  rcases List.mem_or_eq_of_mem_set h with h | h
  · exact Or.inr h
  · exact Or.inl h.symm
theorem am_mem_st {L : am_L} {a : Nat} {x v : am_V} (h : some v ∈ am_st L a x) : v = x ∨ some v ∈ L := by
  have key : ∀ L1 : am_L, (some v ∈ L1 → some v ∈ L) → some v ∈ (if am_tag x = 1 then (L1.set a (some x)).set (a + 1) none else L1.set a (some x)) → v = x ∨ some v ∈ L := by
    intro L1 h1 h2
    split at h2
    · rcases am_mem_set h2 with h3 | h3
      · cases h3
      · rcases am_mem_set h3 with h4 | h4
        · exact Or.inl (Option.some.inj h4).symm
        · exact Or.inr (h1 h4)
    · rcases am_mem_set h2 with h4 | h4
      · exact Or.inl (Option.some.inj h4).symm
      · exact Or.inr (h1 h4)
  unfold am_st at h
  match a, h with
  | 0, h => exact key L (fun z => z) h
  | k + 1, h =>
    refine key (if am_isJ L[k]? = true then L.set k none else L) ?_ h
    intro z
    by_cases hj : am_isJ L[k]? = true
    · rw [if_pos hj] at z
      rcases am_mem_set z with h3 | h3
      · cases h3
      · exact h3
    · rw [if_neg hj] at z
      exact z
theorem am_I.store {ft : List (List Nat)} {μ : am_M} {L : am_L} {S : List am_V} {v : am_V} {a : Nat} (I : am_I ft μ L S) (h : am_okV μ.1.length v) : am_I ft μ (am_st L a v) S :=
  ⟨I.1, fun u hu => (am_mem_st hu).elim (fun e => e ▸ h) (I.2.1 u), I.2.2⟩
theorem am_mem_kill {ks : List Nat} {v : am_V} : ∀ {L : am_L}, some v ∈ am_kill ks L → some v ∈ L := by
  induction ks with
  | nil => intro L h; exact h
  | cons k ks ih =>
    intro L h
    rcases am_mem_set (ih (L := L.set k none) h) with z | z
    · cases z
    · exact z
theorem am_I.kill {ft : List (List Nat)} {μ : am_M} {L : am_L} {S : List am_V} (I : am_I ft μ L S) (ks : List Nat) : am_I ft μ (am_kill ks L) S := ⟨I.1, fun v h => I.2.1 v (am_mem_kill h), I.2.2⟩
theorem am_okT32 {t : Nat} {x : Int} (ht : t < 3) (h : am_okT t x = true) : -2147483648 ≤ x ∧ x < 2147483648 := by
  match t, ht, h with
  | 0, _, h => simpa [am_okT] using h
  | 1, _, h => simp [am_okT] at h; omega
  | 2, _, h => simp [am_okT] at h; omega
theorem am_okT64 {x : Int} (h : am_okT 3 x = true) : -9223372036854775808 ≤ x ∧ x < 9223372036854775808 := by simpa [am_okT] using h
theorem am_okT0 {t : Nat} : am_okT t 0 = true := by
  unfold am_okT
  split <;> simp
theorem am_dsc_rw {μ : am_M} (hl : μ.1.length ≤ 1000) {k : Nat} {c : am_C} (h : μ.1[k]? = some c) : am_dsc μ k = some c := by
  have hk : k < μ.1.length := (List.getElem?_eq_some_iff.mp h).1
  unfold am_dsc
  rw [if_pos (by omega)]
  exact h
/-- a place is written -/
theorem am_R.upd {ft : List (List Nat)} {μ : am_M} (I : am_R ft μ) {k j : Nat} {x : Int} {c : am_C} (h : am_dsc μ k = some c) (hx : am_okT (am_tyc ft c j) x = true) : am_R ft (μ.1, μ.2.1, am_upd μ.2.2 k j x) := by
  refine ⟨I.1, fun k' c' h' => ⟨fun i => ?_, (I.2 k' c' h').2⟩⟩
  show am_okT _ (am_upd μ.2.2 k j x k' i) = true
  unfold am_upd
  split
  next e =>
    subst e
    have ec : c' = c := Option.some.inj ((show am_dsc μ k' = some c' from h').symm.trans h)
    subst ec
    split
    next e => subst e; exact hx
    next => exact (I.2 k' c' h').1 i
  next => exact (I.2 k' c' h').1 i
theorem am_R.row {ft : List (List Nat)} {μ : am_M} (I : am_R ft μ) {k : Nat} {f : Nat → Int} {c : am_C} (h : am_dsc μ k = some c) (hx : ∀ j, am_okT (am_tyc ft c j) (f j) = true) : am_R ft (μ.1, μ.2.1, am_row μ.2.2 k f) := by
  refine ⟨I.1, fun k' c' h' => ⟨fun i => ?_, (I.2 k' c' h').2⟩⟩
  show am_okT _ (am_row μ.2.2 k f k' i) = true
  unfold am_row
  split
  next e =>
    subst e
    have ec : c' = c := Option.some.inj ((show am_dsc μ k' = some c' from h').symm.trans h)
    subst ec
    exact hx i
  next => exact (I.2 k' c' h').1 i
/-- a new cell -/
theorem am_R.new {ft : List (List Nat)} {μ : am_M} (I : am_R ft μ) (hl : μ.1.length < 1000) (c : am_C) (hr : ∀ j r : Nat, c.2.2[j]? ≠ some (r + 1)) : am_R ft (μ.1 ++ [c], μ.2.1, am_row μ.2.2 μ.1.length (fun _ => 0)) := by
  refine ⟨by simp; omega, fun k' c' h' => ?_⟩
  have hlen : (μ.1 ++ [c]).length = μ.1.length + 1 := by simp
  have old : ∀ (z : am_dsc μ k' = some c') (hk : k' ≠ μ.1.length), (∀ j, am_okT (am_tyc ft c' j) (am_row μ.2.2 μ.1.length (fun _ => 0) k' j) = true) ∧ ∀ j r : Nat, c'.2.2[j]? = some (r + 1) → (r < (μ.1 ++ [c]).length ∨ 1000 ≤ r) := by
    intro z hk
    refine ⟨fun j => ?_, fun j r h => ?_⟩
    · unfold am_row
      rw [if_neg hk]
      exact (I.2 k' c' z).1 j
    · rcases (I.2 k' c' z).2 j r h with q | q
      · exact Or.inl (by rw [hlen]; omega)
      · exact Or.inr q
  unfold am_dsc at h'
  split at h'
  next hk =>
    by_cases hlt : k' < μ.1.length
    · refine old ?_ (by omega)
      unfold am_dsc
      rw [if_pos hk]
      exact (List.getElem?_append_left hlt).symm.trans h'
    · have h2 : (μ.1 ++ [c])[k']? = some c' := h'
      have hk2 : k' < μ.1.length + 1 := by rw [← hlen]; exact (List.getElem?_eq_some_iff.mp h2).1
      have e : k' = μ.1.length := by omega
      subst e
      have ec : c = c' := by simpa using h2
      subst ec
      refine ⟨fun j => ?_, fun j r h => absurd h (hr j r)⟩
      show am_okT _ (am_row μ.2.2 μ.1.length (fun _ => 0) μ.1.length j) = true
      unfold am_row
      rw [if_pos rfl]
      exact am_okT0
  next hk =>
    refine old ?_ (by omega)
    unfold am_dsc
    rw [if_neg hk]
    exact h'
theorem am_sl_new {μ : am_M} {c : am_C} {r : List am_C} {σ : Nat → Nat → Int} : am_sl (μ.1 ++ [c], r, σ) = am_sl μ + c.2.1 := by
  unfold am_sl
  simp
theorem am_sl_set {l : List am_C} {k : Nat} {c c' : am_C} (h : l[k]? = some c) (e : c'.2.1 = c.2.1) : ((l.set k c').map (fun c => c.2.1)) = l.map (fun c => c.2.1) := by
  apply List.ext_getElem?
  intro i
  rw [List.getElem?_map, List.getElem?_map]
  by_cases hi : i = k
  · subst hi
    rw [List.getElem?_set_self (List.getElem?_eq_some_iff.mp h).1, h]
    simp [e]
  · rw [List.getElem?_set_ne (Ne.symm hi)]
/-- one instruction keeps all that -/
def am_okc (e : am_E) : Prop := (e.1 = 6 → -2147483648 ≤ e.2.2.2.2.2.1 ∧ e.2.2.2.2.2.1 < 2147483648) ∧ (e.1 = 7 → -9223372036854775808 ≤ e.2.2.2.2.2.1 ∧ e.2.2.2.2.2.1 < 9223372036854775808)
section PRES
variable {ft : List (List Nat)} {μ μ' : am_M} {L L' : am_L} {S S' : List am_V} {pc' n t a b : Nat}
theorem am_p_load (h : am_sload t a n L S μ = some (pc', L', S', μ')) (I : am_I ft μ L S) : am_I ft μ' L' S' ∧ am_G μ μ' := by
  unfold am_sload at h
  split at h
  next v hv =>
    split at h
    next =>
      simp only [Option.some.injEq, Prod.mk.injEq] at h
      obtain ⟨-, rfl, rfl, rfl⟩ := h
      exact ⟨I.push (I.loc hv), am_G.rf⟩
    next => cases h
  next => cases h
theorem am_p_store (h : am_sstore t a n L S μ = some (pc', L', S', μ')) (I : am_I ft μ L S) : am_I ft μ' L' S' ∧ am_G μ μ' := by
  unfold am_sstore at h
  split at h
  next v S1 =>
    split at h
    next =>
      simp only [Option.some.injEq, Prod.mk.injEq] at h
      obtain ⟨-, rfl, rfl, rfl⟩ := h
      exact ⟨I.pop.store I.top, am_G.rf⟩
    next => cases h
  next => cases h
theorem am_p_bin (h : am_sbin a n L S μ = some (pc', L', S', μ')) (I : am_I ft μ L S) : am_I ft μ' L' S' ∧ am_G μ μ' := by
  unfold am_sbin at h
  split at h
  next =>
    simp only [Option.some.injEq, Prod.mk.injEq] at h
    obtain ⟨-, rfl, rfl, rfl⟩ := h
    exact ⟨I.pop.pop.push (am_obin _ _ _), am_G.rf⟩
  next => cases h
theorem am_p_div (h : am_sdiv a n L S μ = some (pc', L', S', μ')) (I : am_I ft μ L S) : am_I ft μ' L' S' ∧ am_G μ μ' := by
  unfold am_sdiv at h
  split at h
  next =>
    split at h
    next => cases h
    next =>
      simp only [Option.some.injEq, Prod.mk.injEq] at h
      obtain ⟨-, rfl, rfl, rfl⟩ := h
      refine ⟨I.pop.pop.push ?_, am_G.rf⟩
      split
      · exact am_w32_rng _
      · exact am_w32_rng _
  next => cases h
theorem am_p_neg (h : am_sneg n L S μ = some (pc', L', S', μ')) (I : am_I ft μ L S) : am_I ft μ' L' S' ∧ am_G μ μ' := by
  unfold am_sneg at h
  split at h
  next =>
    simp only [Option.some.injEq, Prod.mk.injEq] at h
    obtain ⟨-, rfl, rfl, rfl⟩ := h
    exact ⟨I.pop.push (am_w32_rng _), am_G.rf⟩
  next => cases h
theorem am_p_lbin (h : am_slbin a n L S μ = some (pc', L', S', μ')) (I : am_I ft μ L S) : am_I ft μ' L' S' ∧ am_G μ μ' := by
  unfold am_slbin at h
  split at h
  next =>
    simp only [Option.some.injEq, Prod.mk.injEq] at h
    obtain ⟨-, rfl, rfl, rfl⟩ := h
    refine ⟨I.pop.pop.push ?_, am_G.rf⟩
    show -9223372036854775808 ≤ am_lbin a _ _ ∧ am_lbin a _ _ < 9223372036854775808
    unfold am_lbin
    split
    · exact am_w64_rng _
    · exact am_w64_rng _
  next => cases h
theorem am_p_conv (h : am_sconv a n L S μ = some (pc', L', S', μ')) (I : am_I ft μ L S) : am_I ft μ' L' S' ∧ am_G μ μ' := by
  unfold am_sconv at h
  split at h
  next =>
    simp only [Option.some.injEq, Prod.mk.injEq] at h
    obtain ⟨-, rfl, rfl, rfl⟩ := h
    have := I.top
    refine ⟨I.pop.push ?_, am_G.rf⟩
    simp only [am_okV] at this ⊢
    omega
  next =>
    simp only [Option.some.injEq, Prod.mk.injEq] at h
    obtain ⟨-, rfl, rfl, rfl⟩ := h
    exact ⟨I.pop.push (am_w32_rng _), am_G.rf⟩
  next =>
    simp only [Option.some.injEq, Prod.mk.injEq] at h
    obtain ⟨-, rfl, rfl, rfl⟩ := h
    refine ⟨I.pop.push ?_, am_G.rf⟩
    simp only [am_okV, am_i2b]
    omega
  next =>
    simp only [Option.some.injEq, Prod.mk.injEq] at h
    obtain ⟨-, rfl, rfl, rfl⟩ := h
    refine ⟨I.pop.push ?_, am_G.rf⟩
    simp only [am_okV, am_i2c]
    omega
  next => cases h
theorem am_p_lcmp (h : am_slcmp n L S μ = some (pc', L', S', μ')) (I : am_I ft μ L S) : am_I ft μ' L' S' ∧ am_G μ μ' := by
  unfold am_slcmp at h
  split at h
  next =>
    simp only [Option.some.injEq, Prod.mk.injEq] at h
    obtain ⟨-, rfl, rfl, rfl⟩ := h
    refine ⟨I.pop.pop.push ?_, am_G.rf⟩
    simp only [am_okV, am_lcmp]
    split
    · omega
    · split <;> omega
  next => cases h
theorem am_p_inc {c : Int} (h : am_sinc a c n L S μ = some (pc', L', S', μ')) (I : am_I ft μ L S) : am_I ft μ' L' S' ∧ am_G μ μ' := by
  unfold am_sinc at h
  split at h
  next =>
    simp only [Option.some.injEq, Prod.mk.injEq] at h
    obtain ⟨-, rfl, rfl, rfl⟩ := h
    exact ⟨I.store (am_w32_rng _), am_G.rf⟩
  next => cases h
theorem am_p_if {tgt : Nat} (h : am_sif a tgt n L S μ = some (pc', L', S', μ')) (I : am_I ft μ L S) : am_I ft μ' L' S' ∧ am_G μ μ' := by
  unfold am_sif at h
  split at h
  next =>
    simp only [Option.some.injEq, Prod.mk.injEq] at h
    obtain ⟨-, rfl, rfl, rfl⟩ := h
    exact ⟨I.pop, am_G.rf⟩
  next => cases h
theorem am_p_icmp {tgt : Nat} (h : am_sicmp a tgt n L S μ = some (pc', L', S', μ')) (I : am_I ft μ L S) : am_I ft μ' L' S' ∧ am_G μ μ' := by
  unfold am_sicmp at h
  split at h
  next =>
    simp only [Option.some.injEq, Prod.mk.injEq] at h
    obtain ⟨-, rfl, rfl, rfl⟩ := h
    exact ⟨I.pop.pop, am_G.rf⟩
  next => cases h
theorem am_p_tsw {lo : Int} {offs : List Nat} (h : am_stsw b lo offs L S μ = some (pc', L', S', μ')) (I : am_I ft μ L S) : am_I ft μ' L' S' ∧ am_G μ μ' := by
  unfold am_stsw at h
  split at h
  next =>
    split at h
    next =>
      simp only [Option.some.injEq, Prod.mk.injEq] at h
      obtain ⟨-, rfl, rfl, rfl⟩ := h
      exact ⟨I.pop, am_G.rf⟩
    next =>
      split at h
      next =>
        simp only [Option.some.injEq, Prod.mk.injEq] at h
        obtain ⟨-, rfl, rfl, rfl⟩ := h
        exact ⟨I.pop, am_G.rf⟩
      next => cases h
  next => cases h
theorem am_p_dup (h : am_sdup n L S μ = some (pc', L', S', μ')) (I : am_I ft μ L S) : am_I ft μ' L' S' ∧ am_G μ μ' := by
  unfold am_sdup at h
  split at h
  next =>
    split at h
    next => cases h
    next =>
      simp only [Option.some.injEq, Prod.mk.injEq] at h
      obtain ⟨-, rfl, rfl, rfl⟩ := h
      exact ⟨I.push I.top, am_G.rf⟩
  next => cases h
theorem am_p_dup2 (h : am_sdup2 n L S μ = some (pc', L', S', μ')) (I : am_I ft μ L S) : am_I ft μ' L' S' ∧ am_G μ μ' := by
  unfold am_sdup2 at h
  split at h
  next =>
    split at h
    next => cases h
    next =>
      simp only [Option.some.injEq, Prod.mk.injEq] at h
      obtain ⟨-, rfl, rfl, rfl⟩ := h
      exact ⟨(I.push I.pop.top).push I.top, am_G.rf⟩
  next => cases h
theorem am_p_pop (h : am_spop n L S μ = some (pc', L', S', μ')) (I : am_I ft μ L S) : am_I ft μ' L' S' ∧ am_G μ μ' := by
  unfold am_spop at h
  split at h
  next =>
    split at h
    next => cases h
    next =>
      simp only [Option.some.injEq, Prod.mk.injEq] at h
      obtain ⟨-, rfl, rfl, rfl⟩ := h
      exact ⟨I.pop, am_G.rf⟩
  next => cases h
theorem am_tyc_obj {c : am_C} {ci j : Nat} (h : c.1 = 4 + ci) : am_tyc ft c j = am_ft ft ci j := by
  unfold am_tyc
  rw [if_neg (by omega), h, Nat.add_sub_cancel_left]
theorem am_tyc_arr {c : am_C} {j : Nat} (h : c.1 < 4) : am_tyc ft c j = c.1 := by
  unfold am_tyc
  rw [if_pos h]
theorem am_p_getf {ci j : Nat} (h : am_sgetf ft ci j n L S μ = some (pc', L', S', μ')) (I : am_I ft μ L S) : am_I ft μ' L' S' ∧ am_G μ μ' := by
  unfold am_sgetf at h
  split at h
  next k S1 =>
    split at h
    next kd N rs hd =>
      split at h
      next hc =>
        split at h
        next v hv =>
          simp only [Option.some.injEq, Prod.mk.injEq] at h
          obtain ⟨-, rfl, rfl, rfl⟩ := h
          refine ⟨I.pop.push ?_, am_G.rf⟩
          have h1 := (I.1.2 k _ hd).1 j
          rw [am_tyc_obj (c := (kd, N, rs)) hc.1] at h1
          unfold am_fget at hv
          split at hv
          next e => cases hv; rw [e] at h1; exact am_okT32 (by omega) h1
          next e => cases hv; rw [e] at h1; exact am_okT32 (by omega) h1
          next e => cases hv; rw [e] at h1; exact am_okT32 (by omega) h1
          next e => cases hv; rw [e] at h1; exact am_okT64 h1
          next =>
            split at hv
            next r hr => cases hv; exact (I.1.2 k _ hd).2 j r hr
            next => cases hv
        next => cases h
      next => cases h
    next => cases h
  next => cases h
theorem am_p_putf {ci j : Nat} (h : am_sputf ft ci j n L S μ = some (pc', L', S', μ')) (I : am_I ft μ L S) : am_I ft μ' L' S' ∧ am_G μ μ' := by
  unfold am_sputf at h
  split at h
  next x k S1 =>
    split at h
    next kd N rs hd =>
      split at h
      next hc =>
        simp only [Option.some.injEq, Prod.mk.injEq] at h
        obtain ⟨-, rfl, rfl, rfl⟩ := h
        refine ⟨⟨I.1.upd (am_dsc_rw I.1.1 hd) ?_, I.2.1, I.pop.pop.2.2⟩, am_G.upd (am_lt1000 I.1.1 hd)⟩
        rw [am_tyc_obj (c := (kd, N, rs)) hc.1]
        rcases hc.2.2 with z | z
        · have := I.top
          simp only [am_okV] at this
          rw [z]
          simp [am_okT]
          omega
        · rw [z.1]
          exact z.2
      next => cases h
    next => cases h
  next x k S1 =>
    split at h
    next kd N rs hd =>
      split at h
      next hc =>
        simp only [Option.some.injEq, Prod.mk.injEq] at h
        obtain ⟨-, rfl, rfl, rfl⟩ := h
        refine ⟨⟨I.1.upd (am_dsc_rw I.1.1 hd) ?_, I.2.1, I.pop.pop.2.2⟩, am_G.upd (am_lt1000 I.1.1 hd)⟩
        rw [am_tyc_obj (c := (kd, N, rs)) hc.1, hc.2.2]
        have := I.top
        simp only [am_okV] at this
        simp [am_okT]
        omega
      next => cases h
    next => cases h
  next r k S1 =>
    split at h
    next kd N rs hd =>
      split at h
      next hc =>
        simp only [Option.some.injEq, Prod.mk.injEq] at h
        obtain ⟨-, rfl, rfl, rfl⟩ := h
        have hk : k < μ.1.length := (List.getElem?_eq_some_iff.mp hd).1
        have hlen : (μ.1.set k (kd, N, rs.set j (r + 1))).length = μ.1.length := List.length_set
        refine ⟨⟨⟨by rw [hlen]; exact I.1.1, fun k' c' h' => ?_⟩, fun v hv => by rw [hlen]; exact I.2.1 v hv, fun v hv => by rw [hlen]; exact I.pop.pop.2.2 v hv⟩, ⟨by rw [hlen]; exact Nat.le_refl _, ?_, rfl, fun _ _ => rfl⟩⟩
        · by_cases e : k' = k
          · subst e
            have hk2 : k' < 1000 := by have := I.1.1; omega
            have ec : c' = (kd, N, rs.set j (r + 1)) := by
              unfold am_dsc at h'
              rw [if_pos hk2] at h'
              rw [List.getElem?_set_self hk] at h'
              exact (Option.some.inj h').symm
            subst ec
            have h0 := I.1.2 k' _ (am_dsc_rw I.1.1 hd)
            refine ⟨fun i => h0.1 i, fun i q hq => ?_⟩
            rw [hlen]
            have hq' : (rs.set j (r + 1))[i]? = some (q + 1) := hq
            by_cases ei : i = j
            · subst ei
              have hi : i < rs.length := by rw [← List.length_set (as := rs) (i := i) (a := r + 1)]; exact (List.getElem?_eq_some_iff.mp hq').1
              rw [List.getElem?_set_self hi] at hq'
              have : r = q := by simpa using hq'
              subst this
              exact I.top
            · rw [List.getElem?_set_ne (Ne.symm ei)] at hq'
              exact h0.2 i q hq'
          · have h2 : am_dsc μ k' = some c' := by
              unfold am_dsc at h' ⊢
              split at h'
              next z =>
                rw [if_pos z]
                rw [List.getElem?_set_ne (Ne.symm e)] at h'
                exact h'
              next z => rw [if_neg z]; exact h'
            refine ⟨(I.1.2 k' c' h2).1, fun i q hq => ?_⟩
            rw [hlen]
            exact (I.1.2 k' c' h2).2 i q hq
        · have hz := am_sl_set (c' := (kd, N, rs.set j (r + 1))) hd rfl
          show am_sl μ ≤ ((μ.1.set k (kd, N, rs.set j (r + 1))).map (fun c => c.2.1)).sum
          rw [hz]
          exact Nat.le_refl _
      next => cases h
    next => cases h
  next => cases h
theorem am_p_gets (h : am_sgets a n L S μ = some (pc', L', S', μ')) (I : am_I ft μ L S) : am_I ft μ' L' S' ∧ am_G μ μ' := by
  unfold am_sgets at h
  split at h
  next =>
    simp only [Option.some.injEq, Prod.mk.injEq] at h
    obtain ⟨-, rfl, rfl, rfl⟩ := h
    exact ⟨I.push (Or.inr (by omega)), am_G.rf⟩
  next =>
    simp only [Option.some.injEq, Prod.mk.injEq] at h
    obtain ⟨-, rfl, rfl, rfl⟩ := h
    exact ⟨I.push (by simp only [am_okV]; omega), am_G.rf⟩
  next => cases h
theorem am_p_ald (h : am_sald a n L S μ = some (pc', L', S', μ')) (ha : a < 4) (I : am_I ft μ L S) : am_I ft μ' L' S' ∧ am_G μ μ' := by
  unfold am_sald at h
  split at h
  next i k S1 =>
    split at h
    next kd N rs hd =>
      split at h
      next hc =>
        simp only [Option.some.injEq, Prod.mk.injEq] at h
        obtain ⟨-, rfl, rfl, rfl⟩ := h
        refine ⟨I.pop.pop.push ?_, am_G.rf⟩
        have h1 := (I.1.2 k _ hd).1 i.toNat
        rw [am_tyc_arr (c := (kd, N, rs)) (by show kd < 4; omega)] at h1
        have h1 : am_okT kd _ = true := h1
        rw [hc.1] at h1
        split
        next e => subst e; exact am_okT64 h1
        next e => exact am_okT32 (by omega) h1
      next => cases h
    next => cases h
  next => cases h
theorem am_p_ast (h : am_sast a n L S μ = some (pc', L', S', μ')) (I : am_I ft μ L S) : am_I ft μ' L' S' ∧ am_G μ μ' := by
  unfold am_sast at h
  split at h
  next x i k S1 =>
    split at h
    next kd N rs hd =>
      split at h
      next hc =>
        simp only [Option.some.injEq, Prod.mk.injEq] at h
        obtain ⟨-, rfl, rfl, rfl⟩ := h
        refine ⟨⟨I.1.upd (am_dsc_rw I.1.1 hd) ?_, I.2.1, I.pop.pop.pop.2.2⟩, am_G.upd (am_lt1000 I.1.1 hd)⟩
        rw [am_tyc_arr (c := (kd, N, rs)) (by show kd < 4; omega)]
        show am_okT kd x = true
        rw [hc.1]
        rcases hc.2.2.2.2 with z | z
        · have := I.top
          simp only [am_okV] at this
          rw [z]
          simp [am_okT]
          omega
        · exact z
      next => cases h
    next => cases h
  next x i k S1 =>
    split at h
    next kd N rs hd =>
      split at h
      next hc =>
        simp only [Option.some.injEq, Prod.mk.injEq] at h
        obtain ⟨-, rfl, rfl, rfl⟩ := h
        refine ⟨⟨I.1.upd (am_dsc_rw I.1.1 hd) ?_, I.2.1, I.pop.pop.pop.2.2⟩, am_G.upd (am_lt1000 I.1.1 hd)⟩
        rw [am_tyc_arr (c := (kd, N, rs)) (by show kd < 4; omega)]
        show am_okT kd x = true
        rw [hc.1, hc.2.1]
        have := I.top
        simp only [am_okV] at this
        simp [am_okT]
        omega
      next => cases h
    next => cases h
  next => cases h
theorem am_p_alen (h : am_salen n L S μ = some (pc', L', S', μ')) (I : am_I ft μ L S) : am_I ft μ' L' S' ∧ am_G μ μ' := by
  unfold am_salen at h
  split at h
  next =>
    split at h
    next =>
      split at h
      next hc =>
        simp only [Option.some.injEq, Prod.mk.injEq] at h
        obtain ⟨-, rfl, rfl, rfl⟩ := h
        exact ⟨I.pop.push (by simp only [am_okV]; omega), am_G.rf⟩
      next => cases h
    next => cases h
  next => cases h
theorem am_I.grow {c : am_C} (I : am_I ft μ L S) (hl : μ.1.length < 1000) (hr : ∀ j r : Nat, c.2.2[j]? ≠ some (r + 1)) : am_I ft (μ.1 ++ [c], μ.2.1, am_row μ.2.2 μ.1.length (fun _ => 0)) L (vP μ.1.length :: S) ∧ am_G μ (μ.1 ++ [c], μ.2.1, am_row μ.2.2 μ.1.length (fun _ => 0)) := by
  have hlen : (μ.1 ++ [c]).length = μ.1.length + 1 := by simp
  refine ⟨⟨I.1.new hl c hr, fun v hv => ?_, fun v hv => ?_⟩, ⟨by show _ ≤ (μ.1 ++ [c]).length; omega, by rw [am_sl_new]; omega, rfl, fun i hi => am_row_ne (by omega)⟩⟩
  · show am_okV (μ.1 ++ [c]).length v
    exact (I.2.1 v hv).mono (by omega)
  · show am_okV (μ.1 ++ [c]).length v
    rcases List.mem_cons.mp hv with e | e
    · subst e; exact Or.inl (by omega)
    · exact (I.2.2 v e).mono (by omega)
theorem am_p_new {ci N : Nat} (h : am_snew ci N n L S μ = some (pc', L', S', μ')) (I : am_I ft μ L S) : am_I ft μ' L' S' ∧ am_G μ μ' := by
  unfold am_snew at h
  split at h
  next hl =>
    simp only [Option.some.injEq, Prod.mk.injEq] at h
    obtain ⟨-, rfl, rfl, rfl⟩ := h
    refine I.grow hl (fun j r z => ?_)
    have z : (List.replicate N 0)[j]? = some (r + 1) := z
    have := List.eq_of_mem_replicate (List.mem_of_getElem? z)
    omega
  next => cases h
theorem am_p_newa (h : am_snewa a n L S μ = some (pc', L', S', μ')) (I : am_I ft μ L S) : am_I ft μ' L' S' ∧ am_G μ μ' := by
  unfold am_snewa at h
  split at h
  next =>
    split at h
    next hc =>
      simp only [Option.some.injEq, Prod.mk.injEq] at h
      obtain ⟨-, rfl, rfl, rfl⟩ := h
      refine I.pop.grow hc.1 (fun j r z => ?_)
      have z : ([] : List Nat)[j]? = some (r + 1) := z
      simp at z
    next => cases h
  next => cases h
theorem am_p_copy (h : am_scopy a n L S μ = some (pc', L', S', μ')) (I : am_I ft μ L S) : am_I ft μ' L' S' ∧ am_G μ μ' := by
  unfold am_scopy at h
  split at h
  next m dp k1 sp k0 S1 =>
    split at h
    next kd0 N0 r0 kd1 N1 r1 h0 h1 =>
      split at h
      next hc =>
        simp only [Option.some.injEq, Prod.mk.injEq] at h
        obtain ⟨-, rfl, rfl, rfl⟩ := h
        refine ⟨⟨I.1.row (am_dsc_rw I.1.1 h1) (fun j => ?_), I.2.1, I.pop.pop.pop.pop.pop.2.2⟩, am_G.row (am_lt1000 I.1.1 h1)⟩
        have g0 : ∀ i, am_okT kd0 (μ.2.2 k0 i) = true := fun i => by
          have z := (I.1.2 k0 _ (am_dsc_rw I.1.1 h0)).1 i
          rw [am_tyc_arr (c := (kd0, N0, r0)) (by show kd0 < 4; omega)] at z
          exact z
        have g1 : ∀ i, am_okT kd1 (μ.2.2 k1 i) = true := fun i => by
          have z := (I.1.2 k1 _ (am_dsc_rw I.1.1 h1)).1 i
          rw [am_tyc_arr (c := (kd1, N1, r1)) (by show kd1 < 4; omega)] at z
          exact z
        rw [am_tyc_arr (c := (kd1, N1, r1)) (by show kd1 < 4; omega)]
        show am_okT kd1 _ = true
        have e : kd0 = kd1 := by omega
        subst e
        unfold am_cp
        split
        · exact g0 _
        · exact g1 _
      next => cases h
    next => cases h
  next => cases h
theorem am_p_math (h : am_smath a n L S μ = some (pc', L', S', μ')) (I : am_I ft μ L S) : am_I ft μ' L' S' ∧ am_G μ μ' := by
  unfold am_smath at h
  split at h
  next y x S1 =>
    split at h
    next =>
      simp only [Option.some.injEq, Prod.mk.injEq] at h
      obtain ⟨-, rfl, rfl, rfl⟩ := h
      refine ⟨I.pop.pop.push ?_, am_G.rf⟩
      split
      · exact I.top
      · exact I.pop.top
    next => cases h
  next y x S1 =>
    split at h
    next =>
      simp only [Option.some.injEq, Prod.mk.injEq] at h
      obtain ⟨-, rfl, rfl, rfl⟩ := h
      refine ⟨I.pop.pop.push ?_, am_G.rf⟩
      split
      · exact I.top
      · exact I.pop.top
    next => cases h
  next x S1 =>
    split at h
    next =>
      simp only [Option.some.injEq, Prod.mk.injEq] at h
      obtain ⟨-, rfl, rfl, rfl⟩ := h
      refine ⟨I.pop.push ?_, am_G.rf⟩
      split
      · exact I.top
      · exact am_w32_rng _
    next => cases h
  next => cases h
theorem am_p_oinit (h : am_soinit n L S μ = some (pc', L', S', μ')) (I : am_I ft μ L S) : am_I ft μ' L' S' ∧ am_G μ μ' := by
  unfold am_soinit at h
  split at h
  next =>
    split at h
    next =>
      simp only [Option.some.injEq, Prod.mk.injEq] at h
      obtain ⟨-, rfl, rfl, rfl⟩ := h
      exact ⟨I.pop, am_G.rf⟩
    next => cases h
  next => cases h
theorem am_p_chk (h : am_schk n L S μ = some (pc', L', S', μ')) (I : am_I ft μ L S) : am_I ft μ' L' S' ∧ am_G μ μ' := by
  unfold am_schk at h
  split at h
  next =>
    split at h
    next =>
      simp only [Option.some.injEq, Prod.mk.injEq] at h
      obtain ⟨-, rfl, rfl, rfl⟩ := h
      exact ⟨I.pop.pop, am_G.rf⟩
    next => cases h
  next => cases h
theorem am_p_step {e : am_E} {pc : Nat} (hok : am_okc e) (hald : e.1 = 26 → e.2.2.1 < 4) (h : am_step ft e pc L S μ = some (pc', L', S', μ')) (I : am_I ft μ L S) : am_I ft μ' L' S' ∧ am_G μ μ' := by
  obtain ⟨op, len, a, b, d, c, ks, offs⟩ := e
  unfold am_step at h
  dsimp only at h hald
  split at h
  · exact am_p_load h I
  · exact am_p_load h I
  · exact am_p_load h I
  · exact am_p_store h I
  · exact am_p_store h I
  · exact am_p_store h I
  · simp only [Option.some.injEq, Prod.mk.injEq] at h
    obtain ⟨-, rfl, rfl, rfl⟩ := h
    exact ⟨I.push (hok.1 rfl), am_G.rf⟩
  · simp only [Option.some.injEq, Prod.mk.injEq] at h
    obtain ⟨-, rfl, rfl, rfl⟩ := h
    exact ⟨I.push (hok.2 rfl), am_G.rf⟩
  · exact am_p_bin h I
  · exact am_p_div h I
  · exact am_p_div h I
  · exact am_p_neg h I
  · exact am_p_lbin h I
  · exact am_p_conv h I
  · exact am_p_lcmp h I
  · exact am_p_inc h I
  · exact am_p_if h I
  · exact am_p_icmp h I
  · simp only [Option.some.injEq, Prod.mk.injEq] at h
    obtain ⟨-, rfl, rfl, rfl⟩ := h
    exact ⟨I, am_G.rf⟩
  · exact am_p_tsw h I
  · exact am_p_dup h I
  · exact am_p_dup2 h I
  · exact am_p_pop h I
  · exact am_p_getf h I
  · exact am_p_putf h I
  · exact am_p_gets h I
  · exact am_p_ald h (hald rfl) I
  · exact am_p_ast h I
  · exact am_p_alen h I
  · exact am_p_new h I
  · exact am_p_newa h I
  · exact am_p_copy h I
  · exact am_p_math h I
  · exact am_p_chk h I
  · exact am_p_oinit h I
  · simp only [Option.some.injEq, Prod.mk.injEq] at h
    obtain ⟨-, rfl, rfl, rfl⟩ := h
    exact ⟨I.push (Or.inr (by omega)), am_G.rf⟩
  · cases h
theorem am_ent0_mem {v : am_V} : ∀ {vs : List am_V}, some v ∈ am_ent0 vs → v ∈ vs
  | [], h => by cases h
  | u :: vs, h => by
    unfold am_ent0 at h
    split at h
    · rcases List.mem_cons.mp h with e | e
      · cases e; exact List.mem_cons_self
      · rcases List.mem_cons.mp e with e | e
        · cases e
        · exact List.mem_cons_of_mem _ (am_ent0_mem e)
    · rcases List.mem_cons.mp h with e | e
      · cases e; exact List.mem_cons_self
      · exact List.mem_cons_of_mem _ (am_ent0_mem e)
theorem am_ent_mem {v : am_V} {N : Nat} {vs : List am_V} (h : some v ∈ am_ent N vs) : v ∈ vs := by
  rcases List.mem_append.mp h with h | h
  · exact am_ent0_mem h
  · cases List.eq_of_mem_replicate h
theorem am_ret_ok {r : Option am_V} {N : Nat} (h : am_ret a S = some r) (hS : ∀ v ∈ S, am_okV N v) : ∀ v, r = some v → am_okV N v := by
  intro v hv
  subst hv
  unfold am_ret at h
  split at h
  · cases h
  · cases h; exact hS _ List.mem_cons_self
  · split at h
    · cases h; exact hS _ List.mem_cons_self
    · cases h
  · split at h
    · cases h; exact hS _ List.mem_cons_self
    · cases h
  · split at h
    · cases h; exact hS _ List.mem_cons_self
    · cases h
  · cases h; exact hS _ List.mem_cons_self
  · cases h
/-- a whole run keeps all that -/
theorem am_p_run {mL : Nat → Nat} {code : Nat → Nat → Option am_E} (hok : ∀ mid pc e, code mid pc = some e → am_okc e ∧ (e.1 = 26 → e.2.2.1 < 4)) : ∀ (n mid pc : Nat) (L : am_L) (S : List am_V) (μ : am_M) (r : Option am_V) (μ' : am_M), am_run ft mL code n mid pc L S μ = some (r, μ') → am_I ft μ L S → (am_R ft μ' ∧ ∀ v, r = some v → am_okV μ'.1.length v) ∧ am_G μ μ' := by
  intro n
  induction n with
  | zero => intro mid pc L S μ r μ' h; cases h
  | succ n ih =>
    intro mid pc L S μ r μ' h I
    unfold am_run at h
    split at h
    next => cases h
    next op len a b d c ks offs he =>
      obtain ⟨h1, h2⟩ := hok _ _ _ he
      split at h
      next =>
        split at h
        next hc =>
          split at h
          next => cases h
          next r1 μ1 hr1 =>
            obtain ⟨⟨g1, g2⟩, g3⟩ := ih _ _ _ _ _ _ _ hr1 ⟨I.1, fun v hv => I.2.2 v (List.mem_of_mem_take (List.mem_reverse.mp (am_ent_mem hv))), fun v hv => by cases hv⟩
            obtain ⟨k1, k2⟩ := ih _ _ _ _ _ _ _ h ⟨g1, fun v hv => (I.2.1 v (am_mem_kill hv)).mono g3.1, fun v hv => by
              rcases List.mem_append.mp hv with z | z
              · exact g2 v (by simpa using z)
              · exact (I.2.2 v (List.mem_of_mem_drop z)).mono g3.1⟩
            exact ⟨k1, g3.tr k2⟩
        next => cases h
      next =>
        split at h
        next =>
          split at h
          next => cases h
          next r1 hr1 =>
            simp only [Option.some.injEq, Prod.mk.injEq] at h
            obtain ⟨rfl, rfl⟩ := h
            exact ⟨⟨I.1, am_ret_ok hr1 I.2.2⟩, am_G.rf⟩
        next =>
          split at h
          next => cases h
          next pc1 L1 S1 μ1 hs =>
            obtain ⟨g1, g2⟩ := am_p_step h1 h2 hs (I.kill ks)
            obtain ⟨k1, k2⟩ := ih _ _ _ _ _ _ _ h g1
            exact ⟨k1, g2.tr k2⟩
end PRES
