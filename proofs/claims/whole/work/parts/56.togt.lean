/-! CALLS: split, together; the guards -/
section SPG
variable {X l : Nat} {σ T : am_Sg} {F : LF}
def spG (T : am_Sg) (x y z : Int) : Prop := (0 ≤ x ∧ x < (nM T : Int)) ∧ (0 ≤ y ∧ y < (nM T : Int)) ∧ ¬ x = y ∧ (0 ≤ z ∧ z ≤ 1)
theorem c_spB (H : TOk T) (hT : tl σ = T) {x y z : Int} (h : ¬ spG T x y z) : vv X 33 0 [some (vP 0), some (vI x), some (vI y), some (vI z), none, none] [] σ = some (some (vI (-1)), σ) := by
  rw [bq_33_0, c_isMan H hT, bsome]
  dsimp +instances only
  by_cases h1 : 0 ≤ x ∧ x < (nM T : Int)
  · rw [if_pos h1, if_neg i10, c_isMan H hT, bsome]
    dsimp +instances only
    by_cases h2 : 0 ≤ y ∧ y < (nM T : Int)
    · rw [if_pos h2, if_neg i10]
      by_cases h3 : x = y
      · rw [if_pos h3, bq_33_28]
      · rw [if_neg h3, g_gateC, bsome]
        dsimp +instances only
        rw [if_neg (fun h4 => h ⟨h1, h2, h3, h4⟩), if_neg (by decide), bq_33_28]
    · rw [if_neg h2, if_pos rfl, bq_33_28]
  · rw [if_neg h1, if_pos rfl, bq_33_28]
theorem m_spB (H : TOk T) (K : TM σ T l) {x y z : Int} (h : ¬ spG T x y z) : vv X 34 0 [some (vP 80), some (vI x), some (vI y), some (vI z)] [] σ = some (some (vI (-1)), σ) := by
  rw [bq_34_0, m_isMan H K, bsome]
  dsimp +instances only
  by_cases h1 : 0 ≤ x ∧ x < (nM T : Int)
  · rw [if_pos h1, if_neg i10, m_isMan H K, bsome]
    dsimp +instances only
    by_cases h2 : 0 ≤ y ∧ y < (nM T : Int)
    · rw [if_pos h2, if_neg i10]
      by_cases h3 : x = y
      · rw [if_pos h3, bq_34_28]
      · rw [if_neg h3, g_gateM, bsome]
        dsimp +instances only
        rw [if_neg (fun h4 => h ⟨h1, h2, h3, h4⟩), if_neg (by decide), bq_34_28]
    · rw [if_neg h2, if_pos rfl, bq_34_28]
  · rw [if_neg h1, if_pos rfl, bq_34_28]
theorem m_toB (H : TOk T) (K : TM σ T l) {x y z : Int} (h : ¬ spG T x y z) : vv X 32 0 [some (vP 80), some (vI x), some (vI y), some (vI z)] [] σ = some (some (vI (-1)), σ) := by
  rw [bq_32_0, m_isMan H K, bsome]
  dsimp +instances only
  by_cases h1 : 0 ≤ x ∧ x < (nM T : Int)
  · rw [if_pos h1, if_neg i10, m_isMan H K, bsome]
    dsimp +instances only
    by_cases h2 : 0 ≤ y ∧ y < (nM T : Int)
    · rw [if_pos h2, if_neg i10]
      by_cases h3 : x = y
      · rw [if_pos h3, bq_32_28]
      · rw [if_neg h3, g_gateM, bsome]
        dsimp +instances only
        rw [if_neg (fun h4 => h ⟨h1, h2, h3, h4⟩), if_neg (by decide), bq_32_28]
    · rw [if_neg h2, if_pos rfl, bq_32_28]
  · rw [if_neg h1, if_pos rfl, bq_32_28]
theorem q_split (h : Rel X σ) (x y z : Int) : Qc X 33 34 [vI x, vI y, vI z] σ := by
  obtain ⟨T, l, F, R, hN, -⟩ := id h
  have hT := R.1
  have H := R.2.1
  have K := R.2.2.1
  by_cases hh : spG T x y z
  · obtain ⟨h1, h2, h3, h4⟩ := id hh
    obtain ⟨m, rfl, hm⟩ := nat_of h1
    obtain ⟨o, rfl, ho⟩ := nat_of h2
    obtain ⟨g, rfl, hg⟩ := nat_of (n := 2) (show 0 ≤ z ∧ z < ((2 : Nat) : Int) by omega)
    obtain ⟨v, σ1, σ2, e1, e2, f1, f2, -⟩ := splitsC R hN hm ho (by omega) hg
    have K1 := (R.fr f1 rfl rfl rfl).2.2.1
    refine ⟨v, σ1, σ2, e1, vI_of ((bq_34_0 X _ _ _ σ1).trans ?_) rfl, h.scr ((f1.mono rfl rfl).tr (f2.mono rfl rfl))⟩
    rw [m_isMan H K1, bsome]
    dsimp +instances only
    rw [if_pos h1, if_neg i10, m_isMan H K1, bsome]
    dsimp +instances only
    rw [if_pos h2, if_neg i10, if_neg h3, g_gateM, bsome]
    dsimp +instances only
    rw [if_pos h4, if_pos i10, e2, bsome]
  · exact Qc.same h ⟨-1, c_spB H hT hh, m_spB H K hh⟩ rfl rfl
theorem q_together (h : Rel X σ) (x y z : Int) : Qc X 31 32 [vI x, vI y, vI z] σ := by
  obtain ⟨T, l, F, R, hN, -⟩ := id h
  have hT := R.1
  have H := R.2.1
  have K := R.2.2.1
  by_cases hh : spG T x y z
  · obtain ⟨h1, h2, h3, h4⟩ := id hh
    obtain ⟨m, rfl, hm⟩ := nat_of h1
    obtain ⟨o, rfl, ho⟩ := nat_of h2
    obtain ⟨g, rfl, hg⟩ := nat_of (n := 2) (show 0 ≤ z ∧ z < ((2 : Nat) : Int) by omega)
    obtain ⟨v, σ1, σ2, e1, e2, f1, f2, hv⟩ := splitsC R hN hm ho (by omega) hg
    have K1 := (R.fr f1 rfl rfl rfl).2.2.1
    refine ⟨if 0 ≤ v then 1 else 0, σ1, σ2, vI_of ((bq_31_0 X _ _ _ σ).trans ?_) rfl, vI_of ((bq_32_0 X _ _ _ σ1).trans ?_) rfl, h.scr ((f1.mono rfl rfl).tr (f2.mono rfl rfl))⟩
    · rw [e1, bsome]
      dsimp +instances only
      rw [if_pos (show ¬ v = -1 by omega)]
      by_cases u : 0 ≤ v
      · rw [if_pos (show ¬ v = -2 by omega), if_pos u, bq_31_31]
      · rw [if_neg (show ¬ ¬ v = -2 by omega), if_neg u, bq_31_31]
    · rw [m_isMan H K1, bsome]
      dsimp +instances only
      rw [if_pos h1, if_neg i10, m_isMan H K1, bsome]
      dsimp +instances only
      rw [if_pos h2, if_neg i10, if_neg h3, g_gateM, bsome]
      dsimp +instances only
      rw [if_pos h4, if_pos i10, e2, bsome]
      dsimp +instances only
      by_cases u : 0 ≤ v
      · rw [if_pos u, if_pos u, bq_32_45]
      · rw [if_neg u, if_neg u, bq_32_45]
  · refine Qc.same h (L1 := [some (vP 0), some (vI x), some (vI y), some (vI z), none]) ⟨-1, ?_, m_toB H K hh⟩ rfl rfl
    rw [bq_31_0, vI_of (c_spB H hT hh) rfl, bsome]
    dsimp +instances only
    rw [if_neg (by decide), bq_31_31]
end SPG
