/-! THE MACHINE OVER THE CONTENTS ALONE: the skeleton stays -/
abbrev am_Sg : Type := Nat → Nat → Int
abbrev am_F : Type := Nat → Nat → am_L → List am_V → am_Sg → Option (Option am_V × am_Sg)
def am_keepB (op a b : Nat) : Bool := decide (¬ op = 31) && (decide (¬ op = 32) && decide (op = 24 → ¬ am_ft am_ftab a b = 4))
/-- an answer is of the kind that the method's type says -/
def am_rsh (t : Option FieldType) (r : Option am_V) : Bool := match t, r with
  | none, none => true
  | some .long, some (.inr (.inl _)) => true
  | some .long, _ => false
  | some _, some (.inl _) => true
  | _, _ => false
def am_bd (sk ro : List am_C) (f : am_F) : am_F := fun mid pc L S σ => match am_code mid pc with
  | none => none
  | some (op, len, a, b, d, c, ks, offs) =>
    if op = 29 then
      if b ≤ S.length ∧ (am_ent0 (S.take b).reverse).length ≤ am_mL a ∧ am_cats (S.drop b) ≤ 8 ∧ am_recvOk c d (sk, ro, σ) (S.take b).reverse = true then
        match f a 0 (am_ent (am_mL a) (S.take b).reverse) [] σ with
        | none => none
        | some (r, σ') => if am_rsh (am_rt a) r = true then f mid (pc + len) (am_kill ks L) (r.toList ++ S.drop b) σ' else none
      else none
    else if op = 30 then
      match am_ret a S with
      | none => none
      | some r => some (r, σ)
    else match am_step am_ftab (op, len, a, b, d, c, ks, offs) pc (am_kill ks L) S (sk, ro, σ) with
      | none => none
      | some (pc', L', S', μ') => if am_keepB op a b = true then f mid pc' L' S' μ'.2.2 else none
def am_ar (sk ro : List am_C) : Nat → am_F
  | 0 => fun _ _ _ _ _ => none
  | n + 1 => am_bd sk ro (am_ar sk ro n)
def am_le (f g : am_F) : Prop := ∀ mid pc L S σ r, f mid pc L S σ = some r → g mid pc L S σ = some r
theorem am_bd_mono {sk ro : List am_C} {f g : am_F} (h : am_le f g) : am_le (am_bd sk ro f) (am_bd sk ro g) := by
  intro mid pc L S σ r hr
  unfold am_bd at hr ⊢
  split at hr
  next => cases hr
  next op len a b d c ks offs he =>
    split at hr
    next hop =>
      rw [if_pos hop]
      split at hr
      next hc =>
        rw [if_pos hc]
        split at hr
        next => cases hr
        next r1 σ1 h1 =>
          rw [h _ _ _ _ _ _ h1]
          split at hr
          next hs =>
            dsimp only
            rw [if_pos hs]
            exact h _ _ _ _ _ _ hr
          next => cases hr
      next => cases hr
    next hop =>
      rw [if_neg hop]
      split at hr
      next hop2 => rw [if_pos hop2]; exact hr
      next hop2 =>
        rw [if_neg hop2]
        split at hr
        next => cases hr
        next pc1 L1 S1 μ1 hs =>
          split at hr
          next hk =>
            rw [if_pos hk]
            exact h _ _ _ _ _ _ hr
          next => cases hr
theorem am_ar_succ {sk ro : List am_C} : ∀ n, am_le (am_ar sk ro n) (am_ar sk ro (n + 1))
  | 0 => fun _ _ _ _ _ _ h => by cases h
  | n + 1 => am_bd_mono (am_ar_succ n)
theorem am_ar_le {sk ro : List am_C} {n m : Nat} (h : n ≤ m) : am_le (am_ar sk ro n) (am_ar sk ro m) := by
  induction h with
  | refl => exact fun _ _ _ _ _ _ h => h
  | step _ ih => exact fun mid pc L S σ r hr => am_ar_succ _ _ _ _ _ _ _ (ih _ _ _ _ _ _ hr)
/-- the value of a run, whatever its length -/
noncomputable def am_vv (sk ro : List am_C) : am_F := fun mid pc L S σ => @dite _ (∃ n, (am_ar sk ro n mid pc L S σ).isSome = true) (Classical.propDecidable _) (fun h => am_ar sk ro (Classical.choose h) mid pc L S σ) (fun _ => none)
theorem am_vv_of {sk ro : List am_C} (n : Nat) : am_le (am_ar sk ro n) (am_vv sk ro) := by
  intro mid pc L S σ r h
  have hex : ∃ n, (am_ar sk ro n mid pc L S σ).isSome = true := ⟨n, by rw [h]; rfl⟩
  unfold am_vv
  rw [dif_pos hex]
  have h1 := Classical.choose_spec hex
  generalize Classical.choose hex = k at h1 ⊢
  cases hk : am_ar sk ro k mid pc L S σ with
  | none => rw [hk] at h1; cases h1
  | some q =>
    have g1 := am_ar_le (Nat.le_max_left n k) _ _ _ _ _ _ h
    have g2 := am_ar_le (Nat.le_max_right n k) _ _ _ _ _ _ hk
    rw [g1] at g2
    exact g2.symm
theorem am_vv_some {sk ro : List am_C} {mid pc : Nat} {L : am_L} {S : List am_V} {σ : am_Sg} {r : Option am_V × am_Sg} (h : am_vv sk ro mid pc L S σ = some r) : ∃ n, am_ar sk ro n mid pc L S σ = some r := by
  unfold am_vv at h
  by_cases hex : ∃ n, (am_ar sk ro n mid pc L S σ).isSome = true
  · rw [dif_pos hex] at h
    exact ⟨_, h⟩
  · rw [dif_neg hex] at h
    cases h
theorem am_vv_bd {sk ro : List am_C} (mid pc : Nat) (L : am_L) (S : List am_V) (σ : am_Sg) : am_vv sk ro mid pc L S σ = am_bd sk ro (am_vv sk ro) mid pc L S σ := by
  apply Option.ext
  intro r
  constructor
  · intro h
    obtain ⟨n, hn⟩ := am_vv_some h
    cases n with
    | zero => cases hn
    | succ n => exact am_bd_mono (am_vv_of n) _ _ _ _ _ _ hn
  · intro h
    have key : ∃ n, am_bd sk ro (am_ar sk ro n) mid pc L S σ = some r := by
      unfold am_bd at h ⊢
      split at h
      next => cases h
      next op len a b d c ks offs he =>
        split at h
        next hop =>
          split at h
          next hc =>
            split at h
            next => cases h
            next r1 σ1 h1 =>
              split at h
              next hs =>
                obtain ⟨n1, g1⟩ := am_vv_some h1
                obtain ⟨n2, g2⟩ := am_vv_some h
                refine ⟨max n1 n2, ?_⟩
                rw [if_pos hop, if_pos hc, am_ar_le (Nat.le_max_left n1 n2) _ _ _ _ _ _ g1]
                dsimp only
                rw [if_pos hs]
                exact am_ar_le (Nat.le_max_right n1 n2) _ _ _ _ _ _ g2
              next => cases h
          next => cases h
        next hop =>
          split at h
          next hop2 => exact ⟨0, by rw [if_neg hop, if_pos hop2]; exact h⟩
          next hop2 =>
            split at h
            next => cases h
            next pc1 L1 S1 μ1 hs =>
              split at h
              next hk =>
                obtain ⟨n1, g1⟩ := am_vv_some h
                refine ⟨n1, ?_⟩
                rw [if_neg hop, if_neg hop2]
                try dsimp only
                rw [if_pos hk]
                exact g1
              next => cases h
    obtain ⟨n, hn⟩ := key
    exact am_vv_of (n + 1) _ _ _ _ _ _ hn
/-- such a step keeps the skeleton -/
theorem am_step_keep {e : am_E} {pc pc' : Nat} {L L' : am_L} {S S' : List am_V} {μ μ' : am_M} (hk : am_keepB e.1 e.2.2.1 e.2.2.2.1 = true) (h : am_step am_ftab e pc L S μ = some (pc', L', S', μ')) : μ'.1 = μ.1 ∧ μ'.2.1 = μ.2.1 := by
  obtain ⟨op, len, a, b, d, c, ks, offs⟩ := e
  unfold am_keepB at hk
  simp only [Bool.and_eq_true, decide_eq_true_eq] at hk
  unfold am_step at h
  dsimp only at h hk
  split at h
  case h_25 =>
    unfold am_sputf at h
    split at h
    · split at h
      · split at h
        · simp only [Option.some.injEq, Prod.mk.injEq] at h
          obtain ⟨-, -, -, rfl⟩ := h
          exact ⟨rfl, rfl⟩
        · cases h
      · cases h
    · split at h
      · split at h
        · simp only [Option.some.injEq, Prod.mk.injEq] at h
          obtain ⟨-, -, -, rfl⟩ := h
          exact ⟨rfl, rfl⟩
        · cases h
      · cases h
    · split at h
      · split at h
        next hc => exact absurd hc.2.2.1 (hk.2.2 rfl)
        next => cases h
      · cases h
    · cases h
  case h_30 => exact absurd rfl hk.1
  case h_31 => exact absurd rfl hk.2.1
  all_goals (try (cases h; done))
  all_goals (try (simp only [Option.some.injEq, Prod.mk.injEq] at h; obtain ⟨-, -, -, rfl⟩ := h; exact ⟨rfl, rfl⟩))
  all_goals (first | unfold am_sload at h | unfold am_sstore at h | unfold am_sbin at h | unfold am_sdiv at h | unfold am_sneg at h | unfold am_slbin at h | unfold am_sconv at h | unfold am_slcmp at h | unfold am_sinc at h | unfold am_sif at h | unfold am_sicmp at h | unfold am_stsw at h | unfold am_sdup at h | unfold am_sdup2 at h | unfold am_spop at h | unfold am_sgetf at h | unfold am_sgets at h | unfold am_sald at h | unfold am_sast at h | unfold am_salen at h | unfold am_scopy at h | unfold am_smath at h | unfold am_schk at h | unfold am_soinit at h)
  all_goals (repeat' split at h)
  all_goals (try (cases h; done))
  all_goals (simp only [Option.some.injEq, Prod.mk.injEq] at h; obtain ⟨-, -, -, rfl⟩ := h; exact ⟨rfl, rfl⟩)
theorem am_ar_run {sk ro : List am_C} : ∀ (n mid pc : Nat) (L : am_L) (S : List am_V) (σ : am_Sg) (r : Option am_V) (σ' : am_Sg), am_ar sk ro n mid pc L S σ = some (r, σ') → am_run am_ftab am_mL am_code n mid pc L S (sk, ro, σ) = some (r, (sk, ro, σ')) := by
  intro n
  induction n with
  | zero => intro mid pc L S σ r σ' h; cases h
  | succ n ih =>
    intro mid pc L S σ r σ' h
    have h : am_bd sk ro (am_ar sk ro n) mid pc L S σ = some (r, σ') := h
    unfold am_bd at h
    unfold am_run
    split at h
    next => cases h
    next op len a b d c ks offs he =>
      rw [he]
      dsimp only
      split at h
      next hop =>
        rw [if_pos hop]
        split at h
        next hc =>
          rw [if_pos hc]
          split at h
          next => cases h
          next r1 σ1 h1 =>
            rw [ih _ _ _ _ _ _ _ h1]
            split at h
            next => exact ih _ _ _ _ _ _ _ h
            next => cases h
        next => cases h
      next hop =>
        rw [if_neg hop]
        split at h
        next hop2 =>
          rw [if_pos hop2]
          split at h
          next => cases h
          next r1 hr1 =>
            simp only [Option.some.injEq, Prod.mk.injEq] at h
            obtain ⟨rfl, rfl⟩ := h
            rw [hr1]
        next hop2 =>
          rw [if_neg hop2]
          split at h
          next => cases h
          next pc1 L1 S1 μ1 hs =>
            split at h
            next hk =>
              have hk2 := am_step_keep (e := (op, len, a, b, d, c, ks, offs)) hk hs
              rw [hs]
              dsimp only
              have e : μ1 = (sk, ro, μ1.2.2) := by
                rw [← show μ1.1 = sk from hk2.1, ← show μ1.2.1 = ro from hk2.2]
              rw [e]
              exact ih _ _ _ _ _ _ _ h
            next => cases h
