/-! a run that doesn't touch the script goes alike over every script -/
def am_Al (μ ν : am_M) : Prop := μ.1 = ν.1 ∧ μ.1.length ≤ 1000 ∧ (∀ k, ¬ k = 1000 → am_dsc μ k = am_dsc ν k ∧ μ.2.2 k = ν.2.2 k) ∧ am_dsc ν 1000 = some (99, 0, [])
theorem am_Al.dsc {μ ν : am_M} (h : am_Al μ ν) {k : Nat} {c : am_C} (hc : am_dsc ν k = some c) (h99 : ¬ c.1 = 99) : am_dsc μ k = some c ∧ μ.2.2 k = ν.2.2 k := by
  by_cases hk : k = 1000
  · subst hk
    rw [h.2.2.2] at hc
    cases hc
    exact absurd rfl h99
  · exact ⟨(h.2.2.1 k hk).1.trans hc, (h.2.2.1 k hk).2⟩
theorem am_Al.rw {μ ν : am_M} (h : am_Al μ ν) {k : Nat} {c : am_C} (hc : ν.1[k]? = some c) : μ.1[k]? = some c ∧ μ.2.2 k = ν.2.2 k := by
  rw [← h.1] at hc
  have hk : k < 1000 := Nat.lt_of_lt_of_le (List.getElem?_eq_some_iff.mp hc).1 h.2.1
  exact ⟨hc, (h.2.2.1 k (by omega)).2⟩
theorem am_Al.upd {μ ν : am_M} (h : am_Al μ ν) (k j : Nat) (x : Int) : am_Al (μ.1, μ.2.1, am_upd μ.2.2 k j x) (ν.1, ν.2.1, am_upd ν.2.2 k j x) := by
  refine ⟨h.1, h.2.1, fun i hi => ⟨(h.2.2.1 i hi).1, ?_⟩, h.2.2.2⟩
  funext z
  show am_upd μ.2.2 k j x i z = am_upd ν.2.2 k j x i z
  unfold am_upd
  rw [(h.2.2.1 i hi).2]
theorem am_Al.row {μ ν : am_M} (h : am_Al μ ν) (k : Nat) (f : Nat → Int) : am_Al (μ.1, μ.2.1, am_row μ.2.2 k f) (ν.1, ν.2.1, am_row ν.2.2 k f) := by
  refine ⟨h.1, h.2.1, fun i hi => ⟨(h.2.2.1 i hi).1, ?_⟩, h.2.2.2⟩
  funext z
  show am_row μ.2.2 k f i z = am_row ν.2.2 k f i z
  unfold am_row
  rw [(h.2.2.1 i hi).2]
theorem am_Al.sk {μ ν : am_M} (h : am_Al μ ν) (l : List am_C) (hl : l.length ≤ 1000) : am_Al (l, μ.2.1, μ.2.2) (l, ν.2.1, ν.2.2) := by
  refine ⟨rfl, hl, fun i hi => ⟨?_, (h.2.2.1 i hi).2⟩, ?_⟩
  · have := (h.2.2.1 i hi).1
    unfold am_dsc at this ⊢
    split
    next z => rfl
    next z => rw [if_neg z, if_neg z] at this; exact this
  · have := h.2.2.2
    unfold am_dsc at this ⊢
    rw [if_neg (by omega)] at this ⊢
    exact this
section STAR
variable {ft : List (List Nat)} {μ ν ν' : am_M} {L L' : am_L} {S S' : List am_V} {n pc' a b : Nat}
theorem am_sr_getf {ci j : Nat} (hci : ci < 90) (A : am_Al μ ν) (h : am_sgetf ft ci j n L S ν = some (pc', L', S', ν')) : ∃ μ', am_sgetf ft ci j n L S μ = some (pc', L', S', μ') ∧ am_Al μ' ν' := by
  unfold am_sgetf at h ⊢
  split at h
  next k S1 =>
    split at h
    next kd N rs hd =>
      split at h
      next hc =>
        obtain ⟨g1, g2⟩ := A.dsc hd (by show ¬ kd = 99; omega)
        try dsimp only
        rw [g1]
        try dsimp only
        rw [if_pos hc]
        have e : am_fget ft μ.2.2 k ci j rs = am_fget ft ν.2.2 k ci j rs := by
          unfold am_fget
          rw [g2]
        rw [e]
        split at h
        next v hv =>
          simp only [Option.some.injEq, Prod.mk.injEq] at h
          obtain ⟨rfl, rfl, rfl, rfl⟩ := h
          exact ⟨μ, rfl, A⟩
        next => cases h
      next => cases h
    next => cases h
  next => cases h
theorem am_sr_putf {ci j : Nat} (A : am_Al μ ν) (h : am_sputf ft ci j n L S ν = some (pc', L', S', ν')) : ∃ μ', am_sputf ft ci j n L S μ = some (pc', L', S', μ') ∧ am_Al μ' ν' := by
  unfold am_sputf at h ⊢
  split at h
  next x k S1 =>
    split at h
    next kd N rs hd =>
      split at h
      next hc =>
        simp only [Option.some.injEq, Prod.mk.injEq] at h
        obtain ⟨rfl, rfl, rfl, rfl⟩ := h
        try dsimp only
        rw [(A.rw hd).1]
        try dsimp only
        rw [if_pos hc]
        exact ⟨_, rfl, A.upd k j x⟩
      next => cases h
    next => cases h
  next x k S1 =>
    split at h
    next kd N rs hd =>
      split at h
      next hc =>
        simp only [Option.some.injEq, Prod.mk.injEq] at h
        obtain ⟨rfl, rfl, rfl, rfl⟩ := h
        try dsimp only
        rw [(A.rw hd).1]
        try dsimp only
        rw [if_pos hc]
        exact ⟨_, rfl, A.upd k j x⟩
      next => cases h
    next => cases h
  next r k S1 =>
    split at h
    next kd N rs hd =>
      split at h
      next hc =>
        simp only [Option.some.injEq, Prod.mk.injEq] at h
        obtain ⟨rfl, rfl, rfl, rfl⟩ := h
        try dsimp only
        rw [(A.rw hd).1]
        try dsimp only
        rw [if_pos hc, A.1]
        exact ⟨_, rfl, A.sk _ (by rw [List.length_set, ← A.1]; exact A.2.1)⟩
      next => cases h
    next => cases h
  next => cases h
theorem am_sr_ald (ha : a < 4) (A : am_Al μ ν) (h : am_sald a n L S ν = some (pc', L', S', ν')) : ∃ μ', am_sald a n L S μ = some (pc', L', S', μ') ∧ am_Al μ' ν' := by
  unfold am_sald at h ⊢
  split at h
  next i k S1 =>
    split at h
    next kd N rs hd =>
      split at h
      next hc =>
        simp only [Option.some.injEq, Prod.mk.injEq] at h
        obtain ⟨rfl, rfl, rfl, rfl⟩ := h
        obtain ⟨g1, g2⟩ := A.dsc hd (by show ¬ kd = 99; omega)
        try dsimp only
        rw [g1]
        try dsimp only
        rw [if_pos hc, g2]
        exact ⟨μ, rfl, A⟩
      next => cases h
    next => cases h
  next => cases h
theorem am_sr_ast (A : am_Al μ ν) (h : am_sast a n L S ν = some (pc', L', S', ν')) : ∃ μ', am_sast a n L S μ = some (pc', L', S', μ') ∧ am_Al μ' ν' := by
  unfold am_sast at h ⊢
  split at h
  next x i k S1 =>
    split at h
    next kd N rs hd =>
      split at h
      next hc =>
        simp only [Option.some.injEq, Prod.mk.injEq] at h
        obtain ⟨rfl, rfl, rfl, rfl⟩ := h
        try dsimp only
        rw [(A.rw hd).1]
        try dsimp only
        rw [if_pos hc]
        exact ⟨_, rfl, A.upd k i.toNat x⟩
      next => cases h
    next => cases h
  next x i k S1 =>
    split at h
    next kd N rs hd =>
      split at h
      next hc =>
        simp only [Option.some.injEq, Prod.mk.injEq] at h
        obtain ⟨rfl, rfl, rfl, rfl⟩ := h
        try dsimp only
        rw [(A.rw hd).1]
        try dsimp only
        rw [if_pos hc]
        exact ⟨_, rfl, A.upd k i.toNat x⟩
      next => cases h
    next => cases h
  next => cases h
theorem am_sr_alen (A : am_Al μ ν) (h : am_salen n L S ν = some (pc', L', S', ν')) : ∃ μ', am_salen n L S μ = some (pc', L', S', μ') ∧ am_Al μ' ν' := by
  unfold am_salen at h ⊢
  split at h
  next k S1 =>
    split at h
    next kd N rs hd =>
      split at h
      next hc =>
        simp only [Option.some.injEq, Prod.mk.injEq] at h
        obtain ⟨rfl, rfl, rfl, rfl⟩ := h
        try dsimp only
        rw [(A.dsc hd (by show ¬ kd = 99; omega)).1]
        try dsimp only
        rw [if_pos hc]
        exact ⟨μ, rfl, A⟩
      next => cases h
    next => cases h
  next => cases h
theorem am_Al.new (A : am_Al μ ν) (hl : ν.1.length < 1000) (c : am_C) : am_Al (μ.1 ++ [c], μ.2.1, am_row μ.2.2 μ.1.length (fun _ => 0)) (ν.1 ++ [c], ν.2.1, am_row ν.2.2 ν.1.length (fun _ => 0)) := by
  have h1 := A.sk (ν.1 ++ [c]) (by simp; omega)
  have h2 := h1.row ν.1.length (fun _ => 0)
  rw [A.1]
  exact h2
theorem am_sr_new {ci N : Nat} (A : am_Al μ ν) (h : am_snew ci N n L S ν = some (pc', L', S', ν')) : ∃ μ', am_snew ci N n L S μ = some (pc', L', S', μ') ∧ am_Al μ' ν' := by
  unfold am_snew at h ⊢
  split at h
  next hl =>
    simp only [Option.some.injEq, Prod.mk.injEq] at h
    obtain ⟨rfl, rfl, rfl, rfl⟩ := h
    have e : μ.1.length = ν.1.length := by rw [A.1]
    rw [if_pos (by omega)]
    refine ⟨_, ?_, A.new hl _⟩
    rw [e]
  next => cases h
theorem am_sr_newa (A : am_Al μ ν) (h : am_snewa a n L S ν = some (pc', L', S', ν')) : ∃ μ', am_snewa a n L S μ = some (pc', L', S', μ') ∧ am_Al μ' ν' := by
  unfold am_snewa at h ⊢
  split at h
  next i S1 =>
    split at h
    next hc =>
      simp only [Option.some.injEq, Prod.mk.injEq] at h
      obtain ⟨rfl, rfl, rfl, rfl⟩ := h
      have e : μ.1.length = ν.1.length := by rw [A.1]
      try dsimp only
      rw [if_pos (by rw [e]; exact hc)]
      refine ⟨_, ?_, A.new hc.1 _⟩
      rw [e]
    next => cases h
  next => cases h
theorem am_sr_copy (A : am_Al μ ν) (h : am_scopy a n L S ν = some (pc', L', S', ν')) : ∃ μ', am_scopy a n L S μ = some (pc', L', S', μ') ∧ am_Al μ' ν' := by
  unfold am_scopy at h ⊢
  split at h
  next m dp k1 sp k0 S1 =>
    split at h
    next kd0 N0 r0 kd1 N1 r1 h0 h1 =>
      split at h
      next hc =>
        simp only [Option.some.injEq, Prod.mk.injEq] at h
        obtain ⟨rfl, rfl, rfl, rfl⟩ := h
        try dsimp only
        rw [(A.rw h0).1, (A.rw h1).1]
        try dsimp only
        rw [if_pos hc, (A.rw h0).2, (A.rw h1).2]
        exact ⟨_, rfl, A.row _ _⟩
      next => cases h
    next => cases h
  next => cases h
/-- an op that doesn't look at the memory -/
theorem am_sr_any {f : am_M → am_O} {ν0 : am_M} (hf : ∀ ν1 : am_M, f ν1 = (f ν0).map (fun q => (q.1, q.2.1, q.2.2.1, ν1))) (A : am_Al μ ν) (h : f ν = some (pc', L', S', ν')) : ∃ μ', f μ = some (pc', L', S', μ') ∧ am_Al μ' ν' := by
  have h1 := hf ν
  have h2 := hf μ
  rw [h] at h1
  cases hc : f ν0 with
  | none => rw [hc] at h1; cases h1
  | some q =>
    rw [hc] at h1 h2
    simp only [Option.map_some, Option.some.injEq, Prod.mk.injEq] at h1 h2
    obtain ⟨rfl, rfl, rfl, rfl⟩ := h1
    exact ⟨μ, h2, A⟩
theorem am_sr_load {t : Nat} (A : am_Al μ ν) (h : am_sload t a n L S ν = some (pc', L', S', ν')) : ∃ μ', am_sload t a n L S μ = some (pc', L', S', μ') ∧ am_Al μ' ν' := am_sr_any (f := fun x => am_sload t a n L S x) (ν0 := ν) (fun ν1 => by simp only [am_sload]; split <;> (try split) <;> rfl) A h
theorem am_sr_store {t : Nat} (A : am_Al μ ν) (h : am_sstore t a n L S ν = some (pc', L', S', ν')) : ∃ μ', am_sstore t a n L S μ = some (pc', L', S', μ') ∧ am_Al μ' ν' := am_sr_any (f := fun x => am_sstore t a n L S x) (ν0 := ν) (fun ν1 => by simp only [am_sstore]; split <;> (try split) <;> rfl) A h
theorem am_sr_bin (A : am_Al μ ν) (h : am_sbin a n L S ν = some (pc', L', S', ν')) : ∃ μ', am_sbin a n L S μ = some (pc', L', S', μ') ∧ am_Al μ' ν' := am_sr_any (f := fun x => am_sbin a n L S x) (ν0 := ν) (fun ν1 => by simp only [am_sbin]; split <;> (try split) <;> rfl) A h
theorem am_sr_div (A : am_Al μ ν) (h : am_sdiv a n L S ν = some (pc', L', S', ν')) : ∃ μ', am_sdiv a n L S μ = some (pc', L', S', μ') ∧ am_Al μ' ν' := am_sr_any (f := fun x => am_sdiv a n L S x) (ν0 := ν) (fun ν1 => by simp only [am_sdiv]; split <;> (try split) <;> rfl) A h
theorem am_sr_neg (A : am_Al μ ν) (h : am_sneg n L S ν = some (pc', L', S', ν')) : ∃ μ', am_sneg n L S μ = some (pc', L', S', μ') ∧ am_Al μ' ν' := am_sr_any (f := fun x => am_sneg n L S x) (ν0 := ν) (fun ν1 => by simp only [am_sneg]; split <;> (try split) <;> rfl) A h
theorem am_sr_lbin (A : am_Al μ ν) (h : am_slbin a n L S ν = some (pc', L', S', ν')) : ∃ μ', am_slbin a n L S μ = some (pc', L', S', μ') ∧ am_Al μ' ν' := am_sr_any (f := fun x => am_slbin a n L S x) (ν0 := ν) (fun ν1 => by simp only [am_slbin]; split <;> (try split) <;> rfl) A h
theorem am_sr_conv (A : am_Al μ ν) (h : am_sconv a n L S ν = some (pc', L', S', ν')) : ∃ μ', am_sconv a n L S μ = some (pc', L', S', μ') ∧ am_Al μ' ν' := am_sr_any (f := fun x => am_sconv a n L S x) (ν0 := ν) (fun ν1 => by simp only [am_sconv]; split <;> (try split) <;> rfl) A h
theorem am_sr_lcmp (A : am_Al μ ν) (h : am_slcmp n L S ν = some (pc', L', S', ν')) : ∃ μ', am_slcmp n L S μ = some (pc', L', S', μ') ∧ am_Al μ' ν' := am_sr_any (f := fun x => am_slcmp n L S x) (ν0 := ν) (fun ν1 => by simp only [am_slcmp]; split <;> (try split) <;> rfl) A h
theorem am_sr_inc {c : Int} (A : am_Al μ ν) (h : am_sinc a c n L S ν = some (pc', L', S', ν')) : ∃ μ', am_sinc a c n L S μ = some (pc', L', S', μ') ∧ am_Al μ' ν' := am_sr_any (f := fun x => am_sinc a c n L S x) (ν0 := ν) (fun ν1 => by simp only [am_sinc]; split <;> (try split) <;> rfl) A h
theorem am_sr_if {t : Nat} (A : am_Al μ ν) (h : am_sif a t n L S ν = some (pc', L', S', ν')) : ∃ μ', am_sif a t n L S μ = some (pc', L', S', μ') ∧ am_Al μ' ν' := am_sr_any (f := fun x => am_sif a t n L S x) (ν0 := ν) (fun ν1 => by simp only [am_sif]; split <;> rfl) A h
theorem am_sr_icmp {t : Nat} (A : am_Al μ ν) (h : am_sicmp a t n L S ν = some (pc', L', S', ν')) : ∃ μ', am_sicmp a t n L S μ = some (pc', L', S', μ') ∧ am_Al μ' ν' := am_sr_any (f := fun x => am_sicmp a t n L S x) (ν0 := ν) (fun ν1 => by simp only [am_sicmp]; split <;> rfl) A h
theorem am_sr_tsw {c : Int} {offs : List Nat} (A : am_Al μ ν) (h : am_stsw b c offs L S ν = some (pc', L', S', ν')) : ∃ μ', am_stsw b c offs L S μ = some (pc', L', S', μ') ∧ am_Al μ' ν' := am_sr_any (f := fun x => am_stsw b c offs L S x) (ν0 := ν) (fun ν1 => by simp only [am_stsw]; split <;> (try split) <;> (try split) <;> rfl) A h
theorem am_sr_dup (A : am_Al μ ν) (h : am_sdup n L S ν = some (pc', L', S', ν')) : ∃ μ', am_sdup n L S μ = some (pc', L', S', μ') ∧ am_Al μ' ν' := am_sr_any (f := fun x => am_sdup n L S x) (ν0 := ν) (fun ν1 => by simp only [am_sdup]; split <;> (try split) <;> rfl) A h
theorem am_sr_dup2 (A : am_Al μ ν) (h : am_sdup2 n L S ν = some (pc', L', S', ν')) : ∃ μ', am_sdup2 n L S μ = some (pc', L', S', μ') ∧ am_Al μ' ν' := am_sr_any (f := fun x => am_sdup2 n L S x) (ν0 := ν) (fun ν1 => by simp only [am_sdup2]; split <;> (try split) <;> rfl) A h
theorem am_sr_pop (A : am_Al μ ν) (h : am_spop n L S ν = some (pc', L', S', ν')) : ∃ μ', am_spop n L S μ = some (pc', L', S', μ') ∧ am_Al μ' ν' := am_sr_any (f := fun x => am_spop n L S x) (ν0 := ν) (fun ν1 => by simp only [am_spop]; split <;> (try split) <;> rfl) A h
theorem am_sr_gets (A : am_Al μ ν) (h : am_sgets a n L S ν = some (pc', L', S', ν')) : ∃ μ', am_sgets a n L S μ = some (pc', L', S', μ') ∧ am_Al μ' ν' := am_sr_any (f := fun x => am_sgets a n L S x) (ν0 := ν) (fun ν1 => by simp only [am_sgets]; split <;> rfl) A h
theorem am_sr_math (A : am_Al μ ν) (h : am_smath a n L S ν = some (pc', L', S', ν')) : ∃ μ', am_smath a n L S μ = some (pc', L', S', μ') ∧ am_Al μ' ν' := am_sr_any (f := fun x => am_smath a n L S x) (ν0 := ν) (fun ν1 => by simp only [am_smath]; split <;> (try split) <;> rfl) A h
theorem am_sr_oinit (A : am_Al μ ν) (h : am_soinit n L S ν = some (pc', L', S', ν')) : ∃ μ', am_soinit n L S μ = some (pc', L', S', μ') ∧ am_Al μ' ν' := am_sr_any (f := fun x => am_soinit n L S x) (ν0 := ν) (fun ν1 => by simp only [am_soinit]; split <;> (try split) <;> rfl) A h
theorem am_sr_chk (A : am_Al μ ν) (h : am_schk n L S ν = some (pc', L', S', ν')) : ∃ μ', am_schk n L S μ = some (pc', L', S', μ') ∧ am_Al μ' ν' := am_sr_any (f := fun x => am_schk n L S x) (ν0 := ν) (fun ν1 => by simp only [am_schk]; split <;> (try split) <;> rfl) A h
/-- which classes' numbers, which kinds of arrays an entry names -/
def am_small (e : am_E) : Bool := decide (e.1 = 23 → e.2.2.1 < 90) && (decide (e.1 = 26 → e.2.2.1 < 4) && decide (e.1 = 29 → e.2.2.2.2.1 < 90))
theorem am_sr_step {e : am_E} {pc : Nat} (hs : am_small e = true) (A : am_Al μ ν) (h : am_step ft e pc L S ν = some (pc', L', S', ν')) : ∃ μ', am_step ft e pc L S μ = some (pc', L', S', μ') ∧ am_Al μ' ν' := by
  obtain ⟨op, len, a, b, d, c, ks, offs⟩ := e
  unfold am_small at hs
  simp only [Bool.and_eq_true, decide_eq_true_eq] at hs
  unfold am_step at h ⊢
  dsimp only at h hs ⊢
  split at h
  · exact am_sr_load A h
  · exact am_sr_load A h
  · exact am_sr_load A h
  · exact am_sr_store A h
  · exact am_sr_store A h
  · exact am_sr_store A h
  · simp only [Option.some.injEq, Prod.mk.injEq] at h
    obtain ⟨rfl, rfl, rfl, rfl⟩ := h
    exact ⟨μ, rfl, A⟩
  · simp only [Option.some.injEq, Prod.mk.injEq] at h
    obtain ⟨rfl, rfl, rfl, rfl⟩ := h
    exact ⟨μ, rfl, A⟩
  · exact am_sr_bin A h
  · exact am_sr_div A h
  · exact am_sr_div A h
  · exact am_sr_neg A h
  · exact am_sr_lbin A h
  · exact am_sr_conv A h
  · exact am_sr_lcmp A h
  · exact am_sr_inc A h
  · exact am_sr_if A h
  · exact am_sr_icmp A h
  · simp only [Option.some.injEq, Prod.mk.injEq] at h
    obtain ⟨rfl, rfl, rfl, rfl⟩ := h
    exact ⟨μ, rfl, A⟩
  · exact am_sr_tsw A h
  · exact am_sr_dup A h
  · exact am_sr_dup2 A h
  · exact am_sr_pop A h
  · exact am_sr_getf (hs.1 rfl) A h
  · exact am_sr_putf A h
  · exact am_sr_gets A h
  · exact am_sr_ald (hs.2.1 rfl) A h
  · exact am_sr_ast A h
  · exact am_sr_alen A h
  · exact am_sr_new A h
  · exact am_sr_newa A h
  · exact am_sr_copy A h
  · exact am_sr_math A h
  · exact am_sr_chk A h
  · exact am_sr_oinit A h
  · simp only [Option.some.injEq, Prod.mk.injEq] at h
    obtain ⟨rfl, rfl, rfl, rfl⟩ := h
    exact ⟨μ, rfl, A⟩
  · cases h
theorem am_recv_al {c : Int} {d : Nat} {vs : List am_V} (hd : d < 90) (A : am_Al μ ν) (h : am_recvOk c d ν vs = true) : am_recvOk c d μ vs = true := by
  unfold am_recvOk at h ⊢
  split at h
  next z => rw [if_pos z]
  next z =>
    rw [if_neg z]
    split at h
    next k tl =>
      split at h
      next kd N rs hds =>
        simp only [decide_eq_true_eq] at h
        try dsimp only
        rw [(A.dsc hds (by show ¬ kd = 99; omega)).1]
        simp only [decide_eq_true_eq]
        exact h
      next => cases h
    next => cases h
theorem am_star {mL : Nat → Nat} {code : Nat → Nat → Option am_E} (hs : ∀ mid pc e, code mid pc = some e → am_small e = true) : ∀ (n mid pc : Nat) (L : am_L) (S : List am_V) (μ ν : am_M) (r : Option am_V) (ν' : am_M), am_Al μ ν → am_run ft mL code n mid pc L S ν = some (r, ν') → ∃ μ', am_run ft mL code n mid pc L S μ = some (r, μ') ∧ am_Al μ' ν' := by
  intro n
  induction n with
  | zero => intro mid pc L S μ ν r ν' A h; cases h
  | succ n ih =>
    intro mid pc L S μ ν r ν' A h
    unfold am_run at h ⊢
    split at h
    next => cases h
    next op len a b d c ks offs he =>
      have hsm := hs _ _ _ he
      split at h
      next hop =>
        rw [if_pos hop]
        split at h
        next hc =>
          have hd : d < 90 := by
            unfold am_small at hsm
            simp only [Bool.and_eq_true, decide_eq_true_eq] at hsm
            exact hsm.2.2 hop
          rw [if_pos ⟨hc.1, hc.2.1, hc.2.2.1, am_recv_al hd A hc.2.2.2⟩]
          split at h
          next => cases h
          next r1 ν1 hr1 =>
            obtain ⟨μ1, g1, g2⟩ := ih _ _ _ _ _ _ _ _ A hr1
            rw [g1]
            exact ih _ _ _ _ _ _ _ _ g2 h
        next => cases h
      next hop =>
        rw [if_neg hop]
        split at h
        next hop2 =>
          rw [if_pos hop2]
          split at h
          next => cases h
          next r1 hr1 =>
            simp only [Option.some.injEq, Prod.mk.injEq] at h
            obtain ⟨rfl, rfl⟩ := h
            exact ⟨μ, rfl, A⟩
        next hop2 =>
          rw [if_neg hop2]
          split at h
          next => cases h
          next pc1 L1 S1 ν1 hst =>
            obtain ⟨μ1, g1, g2⟩ := am_sr_step hsm A hst
            rw [g1]
            exact ih _ _ _ _ _ _ _ _ g2 h
end STAR
