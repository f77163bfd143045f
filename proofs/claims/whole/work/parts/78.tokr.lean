/-! TOKENS: all of them -/
section TA
variable {B : Nat → Int} {n : Nat}
def TKa (σ σ' : am_Sg) (j : Nat) : Prop := σ 5 j = σ' 84 j ∧ KR (σ 4 j) (σ' 83 j) ∧ (σ 4 j = 3 → σ 6 j = σ' 85 j) ∧ (σ 4 j = 2 → ∃ l : List Nat, Lt l ∧ σ 6 j = ((fr 32 l : Nat) : Int) ∧ σ' 86 j = ((fr 27 l : Nat) : Int))
theorem toks_go (hr : ∀ i, i < n → -128 ≤ B i ∧ B i < 128) {σ σ' : am_Sg} {N M : Nat} {p st p' st' : Nat → Nat} (hC : PreC B n σ N p st) (hN : N ≤ 400) (hM : DoneM B n σ' M p' st') : ∀ j, j ≤ N → j ≤ M ∧ p j = p' j ∧ ∀ i, i < j → TKa σ σ' i := by
  intro j
  induction j with
  | zero => intro _; exact ⟨Nat.zero_le _, by rw [hC.1, hM.1.1], fun i hi => absurd hi (Nat.not_lt_zero _)⟩
  | succ j ih =>
    intro hj
    obtain ⟨a1, a2, a3⟩ := ih (by omega)
    obtain ⟨c1, c2, c3, c4, c5⟩ := hC.2.2 j (by omega)
    have jm : j < M := by
      rcases hM.2 with ⟨d1, d2, d3, d4⟩ | d
      · rcases Nat.lt_or_ge j M with w | w
        · exact w
        · have e : j = M := by omega
          subst e
          rw [a2] at c2
          have := c2.uniq d4
          omega
      · omega
    obtain ⟨e1, e2, e3, e4⟩ := hM.1.2.2 j jm
    rw [a2] at c2
    have ss := c2.uniq e2
    rw [← ss] at e4 e1
    obtain ⟨t1, t2, t3, t4⟩ := tok_same hr c3 c4 e4
    refine ⟨jm, t1, fun i hi => ?_⟩
    by_cases w : i = j
    · rw [w]
      exact ⟨by rw [c1, e1], t2, t3, t4⟩
    · exact a3 i (by omega)
theorem toks_same (hr : ∀ i, i < n → -128 ≤ B i ∧ B i < 128) {σ σ' : am_Sg} {N M : Nat} {p st p' st' : Nat → Nat} (hC : DoneC B n σ N p st) (hN : N ≤ 400) (hM : DoneM B n σ' M p' st') : ∀ j, j ≤ N → TKa σ σ' j := by
  obtain ⟨a1, a2, a3⟩ := toks_go hr hC.1 hN hM N (Nat.le_refl _)
  intro j hj
  by_cases w : j = N
  · subst w
    obtain ⟨c1, c2, c3⟩ := hC.2
    rw [a2] at c2
    rcases c3 with ⟨d1, d2⟩ | ⟨d1, e, d2, d3⟩
    · -- the end
      have jm : j = M := by
        rcases Nat.lt_or_ge j M with u | u
        · obtain ⟨e1, e2, e3, e4⟩ := hM.1.2.2 j u
          have := c2.uniq e2
          omega
        · omega
      rcases hM.2 with ⟨f1, f2, f3, f4⟩ | f
      · subst jm
        exact ⟨by rw [c1, f2, d1], Or.inl ⟨d2, f3⟩, fun q => by omega, fun q => by omega⟩
      · omega
    · have jm : j < M := by
        rcases hM.2 with ⟨f1, f2, f3, f4⟩ | f
        · rcases Nat.lt_or_ge j M with u | u
          · exact u
          · have e0 : j = M := by omega
            subst e0
            have := c2.uniq f4
            omega
        · omega
      obtain ⟨e1, e2, e3, e4⟩ := hM.1.2.2 j jm
      have ss := c2.uniq e2
      rw [← ss] at e4 e1
      obtain ⟨t1, t2, t3, t4⟩ := tok_same hr d1 d2 e4
      exact ⟨by rw [c1, e1], t2, t3, t4⟩
  · exact a3 j (by omega)
end TA
