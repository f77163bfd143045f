/-! TOKENS: one token of the reference -/
section CX
variable {X : Nat} {σ : am_Sg} {B : Nat → Int} {n : Nat}
theorem m_token (hn : n ≤ 2000) (h4 : σ 80 4 = (n : Int)) (hB : ∀ i, i < n → σ 82 i = B i) (hr : ∀ i, i < n → -128 ≤ B i ∧ B i < 128) (hW : ∀ w, w < 19 → σ 87 w = wdM.getD w 0) {t i : Nat} (ht : t ≤ 400) (h10 : σ 80 10 = (t : Int)) (hi : i < n) (hb : ¬ isBl (B i)) : ∃ k v nm e, vv X 90 7 [some (vP 80), some (vI (i : Int)), none, none, none, none, none, none] [] σ = vv X 90 7 [some (vP 80), some (vI ((e : Nat) : Int)), none, none, none, none, none, none] [] (lay σ t k (i : Int) v nm) ∧ KM B n i k v nm e ∧ i < e ∧ e ≤ n := by
  have hri := hr i hi
  have nb : ¬ bA B n i = 9 ∧ ¬ bA B n i = 10 ∧ ¬ bA B n i = 13 ∧ ¬ bA B n i = 32 := by
    unfold isBl at hb
    unfold bA
    rw [if_pos hi]
    split <;> omega
  have head : vv X 90 7 [some (vP 80), some (vI (i : Int)), none, none, none, none, none, none] [] σ = (vcI X 187 [vI (bA B n i)] σ).bind fun q2 => if q2.1 = 0 then (vcI X 188 [vI (bA B n i)] q2.2).bind fun q3 => if q3.1 = 0 then (vcI X 185 [vP 80, vI (w32 ((i : Int) + 1))] q3.2).bind fun q4 => (vcI X 189 [vP 80, vI (i : Int), vI (bA B n i), vI q4.1] q4.2).bind fun q5 => vv X 90 291 [some (vP 80), some (vI (w32 ((i : Int) + q5.1))), none, none, none, none, none, none] [] q5.2 else vv X 90 208 [some (vP 80), some (vI (i : Int)), none, some (vI 0), some (vI 0), none, none, none] [] q3.2 else vv X 90 85 [some (vP 80), some (vI (i : Int)), none, some (vI 0), some (vJ 0), none, none, none] [] q2.2 := by
    rw [bq_90_7, h10, if_neg (by omega), m_byte hn h4 hB hr, bsome]
    dsimp +instances only
    rw [h4, if_pos (show (i : Int) < (n : Int) by omega), if_neg nb.1, if_neg nb.2.1, if_neg nb.2.2.1, if_pos nb.2.2.2]
  by_cases hl : isLe (B i)
  · have yes : isLe (bA B n i) := (bA_le hr).mpr ⟨hi, hl⟩
    obtain ⟨e, y4, q1, q2, q3⟩ := m_letL (X := X) hn h4 hB hr (i := i) (n - i) 0 0 (by omega) (fun j hj => absurd hj (Nat.not_lt_zero _)) (fun _ => rfl)
    have el := q2.le (by omega)
    have ei : i < e := by
      rcases Nat.lt_or_ge i e with w | w
      · exact w
      · have : e = i := by have := q2.1; omega
        subst this
        exact absurd ⟨hi, hl⟩ q2.2.2
    have h179 : ∀ k, vv X 90 179 [some (vP 80), some (vI (i : Int)), none, some (vI ((e - i : Nat) : Int)), some (vJ y4), none, some (vI k), none] [] σ = vv X 90 7 [some (vP 80), some (vI ((e : Nat) : Int)), none, none, none, none, none, none] [] (lay σ t k (i : Int) 0 y4) := fun k => by
      rw [bq_90_179, m_tok (by omega) h10, bsome, bq_90_291, show w32 ((i : Int) + ((e - i : Nat) : Int)) = ((e : Nat) : Int) by rw [w32_id (by omega) (by omega)]; omega]
    have h0 : vv X 90 7 [some (vP 80), some (vI (i : Int)), none, none, none, none, none, none] [] σ = if (7 : Int) < ((e - i : Nat) : Int) then vv X 90 179 [some (vP 80), some (vI (i : Int)), none, some (vI ((e - i : Nat) : Int)), some (vJ y4), none, some (vI (if e - i ≤ 8 then 1 else 3)), none] [] σ else vv X 90 146 [some (vP 80), some (vI (i : Int)), none, some (vI ((e - i : Nat) : Int)), some (vJ y4), none, some (vI (if e - i ≤ 8 then 1 else 3)), some (vI 0)] [] σ := by
      rw [head, m_letter, bsome]
      dsimp +instances only
      rw [if_pos yes, if_neg i10]
      refine q1.trans ?_
      rw [bq_90_135]
    by_cases z8 : e - i ≤ 8
    · by_cases z7 : e - i ≤ 7
      · obtain ⟨k, w1, w2⟩ := m_wordL (X := X) (x1 := (i : Int)) (x3 := ((e - i : Nat) : Int)) (y := y4) (k0 := 1) hW 19 0 1 (by omega) (Or.inr ⟨rfl, fun u hu => absurd hu (Nat.not_lt_zero _)⟩)
        refine ⟨k, 0, y4, e, ?_, Or.inl ⟨hl, q2, Or.inr ⟨z8, q3 z8, ?_⟩⟩, ei, el⟩
        · rw [h0, if_neg (by omega), if_pos z8]
          exact w1.trans (h179 k)
        · rcases w2 with w2 | w2
          · exact Or.inl ⟨z7, w2⟩
          · exact Or.inr ⟨w2.1, fun _ => w2.2⟩
      · refine ⟨1, 0, y4, e, ?_, Or.inl ⟨hl, q2, Or.inr ⟨z8, q3 z8, Or.inr ⟨rfl, fun w => absurd w z7⟩⟩⟩, ei, el⟩
        rw [h0, if_pos (by omega), if_pos z8]
        exact h179 1
    · refine ⟨3, 0, y4, e, ?_, Or.inl ⟨hl, q2, Or.inl ⟨by omega, rfl⟩⟩, ei, el⟩
      rw [h0, if_pos (by omega), if_neg z8]
      exact h179 3
  · have no : ¬ isLe (bA B n i) := fun q => hl ((bA_le hr).mp q).2
    have h2 : vv X 90 7 [some (vP 80), some (vI (i : Int)), none, none, none, none, none, none] [] σ = (vcI X 188 [vI (bA B n i)] σ).bind fun q3 => if q3.1 = 0 then (vcI X 185 [vP 80, vI (w32 ((i : Int) + 1))] q3.2).bind fun q4 => (vcI X 189 [vP 80, vI (i : Int), vI (bA B n i), vI q4.1] q4.2).bind fun q5 => vv X 90 291 [some (vP 80), some (vI (w32 ((i : Int) + q5.1))), none, none, none, none, none, none] [] q5.2 else vv X 90 208 [some (vP 80), some (vI (i : Int)), none, some (vI 0), some (vI 0), none, none, none] [] q3.2 := by
      rw [head, m_letter, bsome]
      dsimp +instances only
      rw [if_neg no, if_pos rfl]
    by_cases hd : isDi (B i)
    · have yes : isDi (bA B n i) := (bA_di hr).mpr ⟨hi, hd⟩
      obtain ⟨e, y4, q1, q2, q3⟩ := m_digL (X := X) hn h4 hB hr (i := i) (n - i) 0 0 (by omega) (fun j hj => absurd hj (Nat.not_lt_zero _)) (fun _ => rfl)
      have el := q2.le (by omega)
      have ei : i < e := by
        rcases Nat.lt_or_ge i e with w | w
        · exact w
        · have : e = i := by have := q2.1; omega
          subst this
          exact absurd ⟨hi, hd⟩ q2.2.2
      refine ⟨if e - i ≤ 4 then 2 else 3, y4, 0, e, ?_, Or.inr (Or.inl ⟨hl, hd, q2, ?_⟩), ei, el⟩
      · rw [h2, m_digit, bsome]
        dsimp +instances only
        rw [if_pos yes, if_neg i10]
        refine q1.trans ?_
        rw [bq_90_261, m_tok (by omega) h10, bsome, bq_90_291, show w32 ((i : Int) + ((e - i : Nat) : Int)) = ((e : Nat) : Int) by rw [w32_id (by omega) (by omega)]; omega]
      · by_cases z : e - i ≤ 4
        · exact Or.inr ⟨z, if_pos z, q3 z⟩
        · exact Or.inl ⟨by omega, if_neg z⟩
    · have no2 : ¬ isDi (bA B n i) := fun q => hd ((bA_di hr).mp q).2
      refine ⟨sgM (bA B n i), 0, 0, i + 1, ?_, Or.inr (Or.inr ⟨hl, hd, rfl, rfl⟩), by omega, by omega⟩
      rw [h2, m_digit, bsome]
      dsimp +instances only
      rw [if_neg no2, if_pos rfl, w32_s1 (by omega), m_byte hn h4 hB hr, bsome]
      dsimp +instances only
      rw [m_sign (by omega) h10, bsome]
      dsimp +instances only
      rw [bq_90_291, w32_s1 (by omega)]
end CX
