/-! TOKENS: the class's runs -/
section SC
variable {X : Nat}
theorem us {σ : am_Sg} {k j : Nat} {x : Int} (h : σ k j = x) : am_upd σ k j x = σ := by
  funext a i
  unfold am_upd
  by_cases z : a = k
  · rw [if_pos z]
    by_cases y : i = j
    · rw [if_pos y, z, y, h]
    · rw [if_neg y]
  · rw [if_neg z]
theorem u2 {σ : am_Sg} {k j : Nat} {x y : Int} : am_upd (am_upd σ k j x) k j y = am_upd σ k j y := by
  rw [uu, uu σ k j x, re, rr, uu σ k j y]
  congr 1
  funext i
  rw [upa, upa, upa]
  by_cases w : i = j
  · rw [if_pos w, if_pos w]
  · rw [if_neg w, if_neg w, if_neg w]
theorem c_with {x3 c : Int} {σ : am_Sg} : vcJ X 171 [vJ x3, vI c] σ = some (w64 (w64 (x3 * 32) + w32 (w32 (c - 97) + 1)), σ) := vJ_of (bq_171_0 X _ _ σ) rfl
theorem pow32 {k : Nat} (h : k ≤ 8) : 32 ^ k ≤ 1099511627776 := by
  have := Nat.pow_le_pow_right (show 0 < 32 by omega) h
  exact Nat.le_trans this (by decide)
theorem c_letL {n i : Nat} {t : Int} (hn : n ≤ 2000) : ∀ (m k : Nat) (x3 : Int) (σ : am_Sg), i + k + m = n → σ 1 5 = (n : Int) → σ 1 6 = ((i + k : Nat) : Int) → (∀ j, j < k → isLe (σ 2 (i + j))) → (k ≤ 8 → x3 = ((fr 32 (sq (σ 2) i k) : Nat) : Int)) → ∃ (e : Nat) (y3 : Int), vv X 266 7 [some (vP 1), some (vI t), some (vI (i : Int)), some (vJ x3), none, none] [] σ = vv X 266 60 [some (vP 1), some (vI t), some (vI (i : Int)), some (vJ y3), none, none] [] (am_upd σ 1 6 (e : Int)) ∧ Run isLe (σ 2) n i e ∧ (e - i ≤ 8 → y3 = ((fr 32 (sq (σ 2) i (e - i)) : Nat) : Int))
  | 0, k, x3, σ, e, h5, h6, hl, hx => by
    refine ⟨i + k, x3, ?_, ⟨by omega, fun j a1 a2 => ⟨by omega, ?_⟩, fun q => by omega⟩, fun q => ?_⟩
    · rw [bq_266_7, h5, h6, if_pos (by omega), us h6]
    · have := hl (j - i) (by omega)
      rwa [show i + (j - i) = j by omega] at this
    · rw [show i + k - i = k by omega] at q ⊢
      exact hx q
  | m + 1, k, x3, σ, e, h5, h6, hl, hx => by
    have stop : ¬ isLe (σ 2 (i + k)) → Run isLe (σ 2) n i (i + k) := fun z => ⟨by omega, fun j a1 a2 => ⟨by omega, by
      have := hl (j - i) (by omega)
      rwa [show i + (j - i) = j by omega] at this⟩, fun q => z q.2⟩
    by_cases z : isLe (σ 2 (i + k))
    · have z' := z
      unfold isLe at z'
      obtain ⟨e', y3, q1, q2, q3⟩ := c_letL (i := i) (t := t) hn m (k + 1) (w64 (w64 (x3 * 32) + w32 (w32 (σ 2 (i + k) - 97) + 1))) (am_upd σ 1 6 ((i + k + 1 : Nat) : Int)) (by omega) (by rw [ue, upa, if_neg (by decide)]; exact h5) (by rw [ue, upa, if_pos rfl]; rfl) (fun j hj => by
        rw [un _ (show ¬ (2 : Nat) = 1 by decide)]
        by_cases w : j = k
        · rw [w]; exact z
        · exact hl j (by omega)) (fun hk => by
        rw [un _ (show ¬ (2 : Nat) = 1 by decide), hx (by omega), sq_s, fr_c]
        have b1 := fr_lt (b := 32) (by omega) (sq_lt hl)
        rw [sq_len] at b1
        have b2 := pow32 (show k ≤ 8 by omega)
        have b3 : fr 32 (sq (σ 2) i k) < 1099511627776 := by omega
        generalize fr 32 (sq (σ 2) i k) = A at b3 ⊢
        rw [w32_id (x := σ 2 (i + k) - 97) (by omega) (by omega), w32_id (by omega) (by omega), w64_id (x := (A : Int) * 32) (by omega) (by omega), w64_id (by omega) (by omega)]
        omega)
      rw [un _ (show ¬ (2 : Nat) = 1 by decide)] at q2 q3
      refine ⟨e', y3, ?_, q2, q3⟩
      rw [bq_266_7, h5, h6, if_neg (by omega), if_pos (by omega), tn_nat, c_letter, bsome]
      dsimp +instances only
      rw [if_pos z, if_neg i10, h6, if_pos (by omega), tn_nat, c_with, bsome]
      dsimp +instances only
      rw [h6, w32_s1 (by omega)]
      refine q1.trans ?_
      rw [u2]
    · refine ⟨i + k, x3, ?_, stop z, fun q => ?_⟩
      · rw [bq_266_7, h5, h6, if_neg (by omega), if_pos (by omega), tn_nat, c_letter, bsome]
        dsimp +instances only
        rw [if_neg z, if_pos rfl, us h6]
      · rw [show i + k - i = k by omega] at q ⊢
        exact hx q
/-- digits as a number -/
def dn (B : Nat → Int) (i : Nat) : Nat → Int
  | 0 => 0
  | k + 1 => dn B i k * 10 + B (i + k) - 48
theorem dn_s {B : Nat → Int} {i k : Nat} : dn B i (k + 1) = dn B i k * 10 + B (i + k) - 48 := rfl
theorem dn_bd {B : Nat → Int} {i : Nat} : ∀ {k : Nat}, (∀ j, j < k → isDi (B (i + j))) → 0 ≤ dn B i k ∧ dn B i k < ((10 ^ k : Nat) : Int)
  | 0, _ => ⟨Int.le_refl _, show (0 : Int) < ((1 : Nat) : Int) by decide⟩
  | k + 1, h => by
    have ih := dn_bd (fun j hj => h j (show j < k + 1 by omega)) (k := k)
    have d := h k (by omega)
    unfold isDi at d
    rw [dn_s, Nat.pow_succ]
    omega
theorem pow10 {k : Nat} (h : k ≤ 4) : 10 ^ k ≤ 10000 := by
  have := Nat.pow_le_pow_right (show 0 < 10 by omega) h
  exact Nat.le_trans this (by decide)
theorem c_digL {n i : Nat} {t : Int} (hn : n ≤ 2000) : ∀ (m k : Nat) (x3 : Int) (σ : am_Sg), i + k + m = n → σ 1 5 = (n : Int) → σ 1 6 = ((i + k : Nat) : Int) → (∀ j, j < k → isDi (σ 2 (i + j))) → (k ≤ 4 → x3 = dn (σ 2) i k) → ∃ (e : Nat) (y3 : Int), vv X 268 7 [some (vP 1), some (vI t), some (vI (i : Int)), some (vI x3)] [] σ = vv X 268 64 [some (vP 1), some (vI t), some (vI (i : Int)), some (vI y3)] [] (am_upd σ 1 6 (e : Int)) ∧ Run isDi (σ 2) n i e ∧ (e - i ≤ 4 → y3 = dn (σ 2) i (e - i))
  | 0, k, x3, σ, e, h5, h6, hl, hx => by
    refine ⟨i + k, x3, ?_, ⟨by omega, fun j a1 a2 => ⟨by omega, ?_⟩, fun q => by omega⟩, fun q => ?_⟩
    · rw [bq_268_7, h5, h6, if_pos (by omega), us h6]
    · have := hl (j - i) (by omega)
      rwa [show i + (j - i) = j by omega] at this
    · rw [show i + k - i = k by omega] at q ⊢
      exact hx q
  | m + 1, k, x3, σ, e, h5, h6, hl, hx => by
    have stop : ¬ isDi (σ 2 (i + k)) → Run isDi (σ 2) n i (i + k) := fun z => ⟨by omega, fun j a1 a2 => ⟨by omega, by
      have := hl (j - i) (by omega)
      rwa [show i + (j - i) = j by omega] at this⟩, fun q => z q.2⟩
    by_cases z : isDi (σ 2 (i + k))
    · have z' := z
      unfold isDi at z'
      obtain ⟨e', y3, q1, q2, q3⟩ := c_digL (i := i) (t := t) hn m (k + 1) (w32 (w32 (w32 (x3 * 10) + σ 2 (i + k)) - 48)) (am_upd σ 1 6 ((i + k + 1 : Nat) : Int)) (by omega) (by rw [ue, upa, if_neg (by decide)]; exact h5) (by rw [ue, upa, if_pos rfl]; rfl) (fun j hj => by
        rw [un _ (show ¬ (2 : Nat) = 1 by decide)]
        by_cases w : j = k
        · rw [w]; exact z
        · exact hl j (by omega)) (fun hk => by
        rw [un _ (show ¬ (2 : Nat) = 1 by decide), hx (by omega), dn_s]
        have b1 := dn_bd hl
        have b2 := pow10 (show k ≤ 4 by omega)
        have b3 : dn (σ 2) i k < 10000 := by omega
        rw [w32_id (x := dn (σ 2) i k * 10) (by omega) (by omega), w32_id (x := dn (σ 2) i k * 10 + σ 2 (i + k)) (by omega) (by omega), w32_id (by omega) (by omega)])
      rw [un _ (show ¬ (2 : Nat) = 1 by decide)] at q2 q3
      refine ⟨e', y3, ?_, q2, q3⟩
      rw [bq_268_7, h5, h6, if_neg (by omega), if_pos (by omega), tn_nat, c_digit, bsome]
      dsimp +instances only
      rw [if_pos z, if_neg i10, h6, if_pos (by omega), tn_nat, w32_s1 (by omega)]
      refine q1.trans ?_
      rw [u2]
    · refine ⟨i + k, x3, ?_, stop z, fun q => ?_⟩
      · rw [bq_268_7, h5, h6, if_neg (by omega), if_pos (by omega), tn_nat, c_digit, bsome]
        dsimp +instances only
        rw [if_neg z, if_pos rfl, us h6]
      · rw [show i + k - i = k by omega] at q ⊢
        exact hx q
end SC
