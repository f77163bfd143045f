/-! WHERE THE LAW BEGINS -/
section INI
variable {X : Nat} {σ : am_Sg} {xs : Nat → Int32}
theorem fa_50 : ∀ j : Fin 46, (50, j.val, (0 : Int)) ∈ am_facts := by decide +kernel
theorem fa_127 : ∀ j : Fin 46, (127, j.val, (0 : Int)) ∈ am_facts := by decide +kernel
theorem fa_143 : ∀ j : Fin 3, (143, j.val, (0 : Int)) ∈ am_facts := by decide +kernel
theorem fa_3 : ∀ j : Fin 19, (3, j.val, wdC.getD j.val 0) ∈ am_facts := by decide +kernel
theorem fa_87 : ∀ j : Fin 19, (87, j.val, wdM.getD j.val 0) ∈ am_facts := by decide +kernel
theorem bt1_00 : ∀ j : Fin 3, bt1 0 j.val = 0 := by decide +kernel
theorem init_rel (h : am_Init X xs σ) : Rel X σ := by
  obtain ⟨-, hf, hk⟩ := h
  have f80 := hf (8, 0, 0) (by decide +kernel)
  have f81 := hf (8, 1, 0) (by decide +kernel)
  have f82 := hf (8, 2, 0) (by decide +kernel)
  have f83 := hf (8, 3, 0) (by decide +kernel)
  have f84 := hf (8, 4, 0) (by decide +kernel)
  have e8 : tl σ 8 = σ 8 := tl_in (by omega)
  dsimp only at f80 f81 f82 f83 f84
  have t0 : tl σ 8 0 = 0 := by rw [e8]; exact f80
  have t1 : tl σ 8 1 = 0 := by rw [e8]; exact f81
  have t2 : tl σ 8 2 = 0 := by rw [e8]; exact f82
  have t3 : tl σ 8 3 = 0 := by rw [e8]; exact f83
  have t4 : tl σ 8 4 = 0 := by rw [e8]; exact f84
  have nd : nD (tl σ) = 0 := by unfold nD; rw [t0]; rfl
  have nm : nM (tl σ) = 0 := by unfold nM; rw [t1]; rfl
  have nb : nB (tl σ) = 0 := by unfold nB; rw [t2]; rfl
  have ng : nG (tl σ) = 0 := by unfold nG; rw [t3]; rfl
  have ne : nE (tl σ) = 0 := by unfold nE; rw [t4]; rfl
  have z50 : ∀ j, j < 46 → σ 50 j = 0 := fun j hj => hf _ (fa_50 ⟨j, hj⟩)
  have z127 : ∀ j, j < 46 → σ 127 j = 0 := fun j hj => hf _ (fa_127 ⟨j, hj⟩)
  have zr : ∀ j, rs (σ 127) j = 0 := fun j => by
    unfold rs
    split
    next q => exact z127 j q
    next => rfl
  refine ⟨tl σ, 0, fun _ _ _ => 0, ⟨rfl, ?_, ?_, ⟨fun g d _ hd => absurd hd (by omega), fun g d _ hd => absurd hd (by omega)⟩, fun g d _ hd => absurd hd (by omega), fun g d v => ⟨Int.le_refl _, show (0 : Int) ≤ 6 by decide⟩⟩, ⟨rs_ext fun j hj => by rw [z50 j hj, z127 j hj], ?_⟩, ?_, ?_, ?_, ?_, ?_, ?_⟩
  · refine ⟨⟨by rw [nd, t0]; rfl, by omega⟩, ⟨by rw [nm, t1]; rfl, by omega⟩, ⟨by rw [nb, t2]; rfl, by omega⟩, ⟨by rw [ng, t3]; rfl, by omega⟩, fun d hd => absurd hd (by omega), fun d hd => absurd hd (by omega), fun d hd => absurd hd (by omega), fun d hd => absurd hd (by omega)⟩
  · refine ⟨⟨hf (80, 18, 0) (by decide +kernel), by omega⟩, ⟨?_, ?_, ?_, ?_, ?_, by rw [ne, t4]; rfl, by omega⟩, fun d hd => absurd hd (by omega), fun d hd => absurd hd (by omega), fun d hd => absurd hd (by omega), fun d hd => absurd hd (by omega), fun d hd => absurd hd (by omega), fun d hd => absurd hd (by omega)⟩
    · rw [t0]; exact hf (91, 0, 0) (by decide +kernel)
    · rw [t1]; exact hf (95, 0, 0) (by decide +kernel)
    · rw [t2]; exact hf (112, 0, 0) (by decide +kernel)
    · rw [t3]; exact hf (115, 0, 0) (by decide +kernel)
    · rw [t4]; exact hf (118, 0, 0) (by decide +kernel)
  · refine ⟨fun m hm => absurd hm (by omega), fun d _ => ?_, ?_, fun j => ?_⟩
    · rw [zr]; omega
    · rw [zr]; omega
    · rw [zr]; omega
  · exact ⟨0, 0, fun _ _ => 0, ⟨⟨by omega, by omega⟩, ⟨hf (60, 3, 0) (by decide +kernel), hf (60, 2, 0) (by decide +kernel)⟩, fun i j hi => absurd hi (Nat.not_lt_zero _)⟩, ⟨hf (80, 67, 0) (by decide +kernel), fun i j hi => absurd hi (Nat.not_lt_zero _)⟩, fun i hi => absurd hi (Nat.not_lt_zero _)⟩
  · have f60 : σ 60 4 = 0 := hf (60, 4, 0) (by decide +kernel)
    refine ⟨by omega, fun s hs => ?_⟩
    have f143 : σ 143 s = 0 := hf _ (fa_143 ⟨s, hs⟩)
    refine ⟨Or.inl f143, ?_, fun q => absurd q (by omega)⟩
    rw [f60, f143]
    exact bt1_00 ⟨s, hs⟩
  · exact ⟨0, by omega, ⟨hf (75, 8, 0) (by decide +kernel), hf (80, 81, 0) (by decide +kernel)⟩, fun i hi => absurd hi (Nat.not_lt_zero _)⟩
  · exact ⟨0, by omega, ⟨hf (1, 5, 0) (by decide +kernel), hf (80, 2, 0) (by decide +kernel)⟩, fun i hi => absurd hi (Nat.not_lt_zero _)⟩
  · exact (hf (47, 7, -1) (by decide +kernel)).trans (hf (80, 17, -1) (by decide +kernel)).symm
  · refine ⟨fun i hi => hf _ (fa_3 ⟨i, hi⟩), fun i hi => hf _ (fa_87 ⟨i, hi⟩), fun k hk1 => ?_⟩
    rw [hk k (by omega)]
    funext j
    unfold am_s0
    rw [if_neg (show ¬ k = 1000 by omega), if_neg (show ¬ k = 1000 by omega)]
/-- all but the reading -/
theorem law_all (hX : X ≤ 3072) (hread : ∀ τ, Rel X τ → Qc X 7 8 [] τ) (h : am_Init X xs σ) : ∃ σ', vv X 0 18 [some (vP 1000), some (vP 0), some (vP 80), some (vI 0)] [] σ = some (some (vI 1), σ') := law_loop hX hread X 0 σ (by omega) (by omega) (init_rel h) h.1
end INI
