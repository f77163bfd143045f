/-! TOKENS: the reference's digits, words, signs -/
section CV
variable {X : Nat} {σ : am_Sg} {B : Nat → Int} {n : Nat}
theorem m_digL (hn : n ≤ 2000) (h4 : σ 80 4 = (n : Int)) (hB : ∀ i, i < n → σ 82 i = B i) (hr : ∀ i, i < n → -128 ≤ B i ∧ B i < 128) {i : Nat} : ∀ (m k : Nat) (x4 : Int), i + k + m = n → (∀ j, j < k → isDi (B (i + j))) → (k ≤ 4 → x4 = dn B i k) → ∃ (e : Nat) (y4 : Int), vv X 90 208 [some (vP 80), some (vI (i : Int)), none, some (vI (k : Int)), some (vI x4), none, none, none] [] σ = vv X 90 261 [some (vP 80), some (vI (i : Int)), none, some (vI ((e - i : Nat) : Int)), some (vI y4), none, none, none] [vI (if e - i ≤ 4 then 2 else 3), vP 80] σ ∧ Run isDi B n i e ∧ (e - i ≤ 4 → y4 = dn B i (e - i)) := by
  intro m
  induction m with
  | zero =>
    intro k x4 e hl hx
    have no : ¬ isDi (bA B n (i + k)) := fun q => by have := ((bA_di hr).mp q).1; omega
    refine ⟨i + k, x4, ?_, ⟨by omega, fun j a1 a2 => ⟨by omega, ?_⟩, fun q => by omega⟩, fun q => ?_⟩
    · rw [bq_90_208, show w32 ((i : Int) + (k : Int)) = ((i + k : Nat) : Int) by rw [w32_id (by omega) (by omega)]; omega, m_byte hn h4 hB hr, bsome]
      dsimp +instances only
      rw [m_digit, bsome]
      dsimp +instances only
      rw [if_neg no, if_pos rfl, show i + k - i = k by omega]
      by_cases z : k ≤ 4
      · rw [if_pos (by omega), if_pos z]
      · rw [if_neg (by omega), if_neg z]
    · have := hl (j - i) (by omega)
      rwa [show i + (j - i) = j by omega] at this
    · rw [show i + k - i = k by omega] at q ⊢
      exact hx q
  | succ m ih =>
    intro k x4 e hl hx
    have wi : w32 ((i : Int) + (k : Int)) = ((i + k : Nat) : Int) := by rw [w32_id (by omega) (by omega)]; omega
    by_cases z : isDi (B (i + k))
    · have z' := z
      unfold isDi at z'
      have yes : isDi (bA B n (i + k)) := (bA_di hr).mpr ⟨by omega, z⟩
      have eb : bA B n (i + k) = B (i + k) := bA_in (by omega) (by omega)
      have hl' : ∀ j, j < k + 1 → isDi (B (i + j)) := fun j hj => by
        by_cases w : j = k
        · rw [w]; exact z
        · exact hl j (by omega)
      by_cases k4 : 4 ≤ k
      · obtain ⟨e', y4, q1, q2, q3⟩ := ih (k + 1) x4 (by omega) hl' (fun q => absurd q (by omega))
        refine ⟨e', y4, ?_, q2, q3⟩
        rw [bq_90_208, wi, m_byte hn h4 hB hr, bsome]
        dsimp +instances only
        rw [m_digit, bsome]
        dsimp +instances only
        rw [if_pos yes, if_neg i10, if_pos (by omega), bq_90_244, w32_s1 (by omega)]
        exact q1
      · obtain ⟨e', y4, q1, q2, q3⟩ := ih (k + 1) (w32 (w32 (w32 (10 * x4) + B (i + k)) - 48)) (by omega) hl' (fun hk => by
          rw [hx (by omega), dn_s]
          have b1 := dn_bd hl
          have b2 := pow10 (show k ≤ 4 by omega)
          have b3 : dn B i k < 10000 := by omega
          rw [w32_id (x := 10 * dn B i k) (by omega) (by omega), w32_id (x := 10 * dn B i k + B (i + k)) (by omega) (by omega), w32_id (by omega) (by omega)]
          omega)
        refine ⟨e', y4, ?_, q2, q3⟩
        rw [bq_90_208, wi, m_byte hn h4 hB hr, bsome]
        dsimp +instances only
        rw [m_digit, bsome]
        dsimp +instances only
        rw [if_pos yes, if_neg i10, if_neg (by omega), m_byte hn h4 hB hr, bsome]
        dsimp +instances only
        rw [bq_90_244, w32_s1 (by omega), eb]
        exact q1
    · have no : ¬ isDi (bA B n (i + k)) := fun q => z ((bA_di hr).mp q).2
      refine ⟨i + k, x4, ?_, ⟨by omega, fun j a1 a2 => ⟨by omega, ?_⟩, fun q => z q.2⟩, fun q => ?_⟩
      · rw [bq_90_208, wi, m_byte hn h4 hB hr, bsome]
        dsimp +instances only
        rw [m_digit, bsome]
        dsimp +instances only
        rw [if_neg no, if_pos rfl, show i + k - i = k by omega]
        by_cases y : k ≤ 4
        · rw [if_pos (by omega), if_pos y]
        · rw [if_neg (by omega), if_neg y]
      · have := hl (j - i) (by omega)
        rwa [show i + (j - i) = j by omega] at this
      · rw [show i + k - i = k by omega] at q ⊢
        exact hx q
theorem m_wordL {y : Int} {x1 x3 k0 : Int} (hW : ∀ w, w < 19 → σ 87 w = wdM.getD w 0) : ∀ (m w : Nat) (k : Int), w + m = 19 → ((∃ u : Nat, u < w ∧ k = ((20 + u : Nat) : Int) ∧ wdM.getD u 0 = y) ∨ (k = k0 ∧ ∀ u : Nat, u < w → ¬ wdM.getD u 0 = y)) → ∃ k', vv X 90 146 [some (vP 80), some (vI x1), none, some (vI x3), some (vJ y), none, some (vI k), some (vI (w : Int))] [] σ = vv X 90 179 [some (vP 80), some (vI x1), none, some (vI x3), some (vJ y), none, some (vI k'), none] [] σ ∧ ((∃ u : Nat, u < 19 ∧ k' = ((20 + u : Nat) : Int) ∧ wdM.getD u 0 = y) ∨ (k' = k0 ∧ ∀ u : Nat, u < 19 → ¬ wdM.getD u 0 = y)) := by
  intro m
  induction m with
  | zero =>
    intro w k e h
    refine ⟨k, by rw [bq_90_146, if_pos (by omega)], ?_⟩
    rw [show w = 19 by omega] at h
    exact h
  | succ m ih =>
    intro w k e h
    by_cases z : wdM.getD w 0 = y
    · obtain ⟨k', q1, q2⟩ := ih (w + 1) ((20 + w : Nat) : Int) (by omega) (Or.inl ⟨w, by omega, rfl, z⟩)
      refine ⟨k', ?_, q2⟩
      rw [bq_90_146, if_neg (by omega), if_pos (by omega), tn_nat, hW w (by omega), if_neg (fun q => q (lcmp_iff.mpr z)), bq_90_173, w32_s1 (by omega), show w32 (20 + (w : Int)) = ((20 + w : Nat) : Int) by rw [w32_id (by omega) (by omega)]; omega]
      exact q1
    · obtain ⟨k', q1, q2⟩ := ih (w + 1) k (by omega) (by
        rcases h with ⟨u, u1, u2, u3⟩ | ⟨h1, h2⟩
        · exact Or.inl ⟨u, by omega, u2, u3⟩
        · refine Or.inr ⟨h1, fun u hu => ?_⟩
          by_cases v : u = w
          · rw [v]; exact z
          · exact h2 u (by omega))
      refine ⟨k', ?_, q2⟩
      rw [bq_90_146, if_neg (by omega), if_pos (by omega), tn_nat, hW w (by omega), if_pos (fun q => z (lcmp_iff.mp q)), bq_90_173, w32_s1 (by omega)]
      exact q1
/-- a token laid down -/
def lay (σ : am_Sg) (t : Nat) (k w v nm : Int) : am_Sg := am_upd (am_upd (am_upd (am_upd (am_upd σ 83 t k) 84 t w) 85 t v) 86 t nm) 80 10 ((t + 1 : Nat) : Int)
theorem m_tok {t : Nat} {k w v nm : Int} (ht : t < 403) (h : σ 80 10 = (t : Int)) : vcV X 186 [vP 80, vI k, vI w, vI v, vJ nm] σ = some (lay σ t k w v nm) := by
  refine vV_of ((bq_186_0 X _ _ _ _ σ).trans ?_) rfl
  have h1 : (am_upd (am_upd σ 83 t k) 84 t w) 80 10 = (t : Int) := by rw [un _ (show ¬ (80 : Nat) = 84 by decide), un _ (show ¬ (80 : Nat) = 83 by decide)]; exact h
  have h2 : (am_upd (am_upd (am_upd (am_upd σ 83 t k) 84 t w) 85 t v) 86 t nm) 80 10 = (t : Int) := by rw [un _ (show ¬ (80 : Nat) = 86 by decide), un _ (show ¬ (80 : Nat) = 85 by decide)]; exact h1
  rw [h, if_pos (by omega), tn_nat, bq_186_20, h1, if_pos (by omega), tn_nat, bq_186_41, h2, w32_s1 (by omega)]
  rfl
end CV
