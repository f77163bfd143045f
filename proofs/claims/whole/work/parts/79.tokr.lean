/-! TOKENS: bounds and order -/
section TB
variable {B : Nat → Int} {n : Nat}
theorem KC.gt {i e : Nat} {k v : Int} (h : KC B n i k v e) (hi : i < n) : i < e := by
  rcases h with ⟨a1, a2, -⟩ | ⟨-, a1, a2, -⟩ | ⟨-, -, a2, -⟩
  · rcases Nat.lt_or_ge i e with w | w
    · exact w
    · have : e = i := by have := a2.1; omega
      subst this
      exact absurd ⟨hi, a1⟩ a2.2.2
  · rcases Nat.lt_or_ge i e with w | w
    · exact w
    · have : e = i := by have := a2.1; omega
      subst this
      exact absurd ⟨hi, a1⟩ a2.2.2
  · omega
theorem KC.int {i e : Nat} {k v : Int} (h : KC B n i k v e) (hk : k = 3) : 0 ≤ v ∧ v ≤ 9999 := by
  rcases h with ⟨-, -, h | ⟨-, -, ⟨w, -, h, -⟩ | h⟩⟩ | ⟨-, -, a2, h | ⟨h1, -, h3⟩⟩ | ⟨-, -, -, h | h⟩
  · omega
  · omega
  · omega
  · omega
  · have b1 := dn_bd (B := B) (i := i) (k := e - i) (fun j hj => (a2.2.1 (i + j) (by omega) (by omega)).2)
    have b2 := pow10 h1
    rw [h3]
    omega
  · have n3 : ∀ c ∈ am_sb, ¬ c = 3 := by decide +kernel
    exact absurd (h.2.symm.trans hk) (n3 _ h.1)
  · omega
theorem PreC.mono {σ : am_Sg} {t : Nat} {p st : Nat → Nat} (h : PreC B n σ t p st) {j : Nat} (hj : j + 1 < t) : st j < st (j + 1) := by
  obtain ⟨-, -, a3, a4, -⟩ := h.2.2 j (by omega)
  obtain ⟨-, b2, -⟩ := h.2.2 (j + 1) hj
  have := a4.gt a3
  have := b2.1
  omega
end TB
