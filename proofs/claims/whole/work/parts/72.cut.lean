/-! TOKENS: the reference's runs -/
section CU
variable {X : Nat} {σ : am_Sg} {B : Nat → Int} {n : Nat}
def bA (B : Nat → Int) (n i : Nat) : Int := if i < n then (if B i < 0 then B i + 256 else B i) else 0
theorem and255_f : ∀ x : Fin 256, am_and ((x.val : Int) - 128) 255 = if (x.val : Int) - 128 < 0 then (x.val : Int) - 128 + 256 else (x.val : Int) - 128 := by decide +kernel
theorem and255 {x : Int} (h : -128 ≤ x ∧ x < 128) : am_and x 255 = if x < 0 then x + 256 else x := by
  have := and255_f ⟨(x + 128).toNat, by omega⟩
  have e : (((x + 128).toNat : Nat) : Int) - 128 = x := by omega
  dsimp only at this
  rw [e] at this
  exact this
theorem m_byte (hn : n ≤ 2000) (h4 : σ 80 4 = (n : Int)) (hB : ∀ i, i < n → σ 82 i = B i) (hr : ∀ i, i < n → -128 ≤ B i ∧ B i < 128) (i : Nat) : vcI X 185 [vP 80, vI (i : Int)] σ = some (bA B n i, σ) := by
  refine vI_of ((bq_185_0 X _ σ).trans ?_) rfl
  unfold bA
  by_cases z : i < n
  · rw [h4, if_neg (by omega), if_pos (by omega), tn_nat, hB i z, and255 (hr i z), bq_185_22, if_pos z]
  · rw [h4, if_pos (by omega), bq_185_22, if_neg z]
theorem bA_le (hr : ∀ i, i < n → -128 ≤ B i ∧ B i < 128) {i : Nat} : isLe (bA B n i) ↔ i < n ∧ isLe (B i) := by
  unfold bA isLe
  by_cases z : i < n
  · have := hr i z
    rw [if_pos z]
    split <;> constructor <;> intro q <;> omega
  · rw [if_neg z]
    constructor <;> intro q <;> omega
theorem bA_di (hr : ∀ i, i < n → -128 ≤ B i ∧ B i < 128) {i : Nat} : isDi (bA B n i) ↔ i < n ∧ isDi (B i) := by
  unfold bA isDi
  by_cases z : i < n
  · have := hr i z
    rw [if_pos z]
    split <;> constructor <;> intro q <;> omega
  · rw [if_neg z]
    constructor <;> intro q <;> omega
theorem bA_in {i : Nat} (h : i < n) (h0 : 0 ≤ B i) : bA B n i = B i := by
  unfold bA
  rw [if_pos h, if_neg (by omega)]
theorem m_app {x c : Int} (hc : ¬ c = 0) : vcJ X 173 [vJ x, vI c] σ = some (w64 (w64 (27 * x) + w32 (w32 (c - 97) + 1)), σ) := vJ_of ((bq_173_0 X _ _ σ).trans (by rw [if_pos hc, bq_173_21])) rfl
theorem pow27 {k : Nat} (h : k ≤ 8) : 27 ^ k ≤ 282429536481 := by
  have := Nat.pow_le_pow_right (show 0 < 27 by omega) h
  exact Nat.le_trans this (by decide)
theorem m_letL (hn : n ≤ 2000) (h4 : σ 80 4 = (n : Int)) (hB : ∀ i, i < n → σ 82 i = B i) (hr : ∀ i, i < n → -128 ≤ B i ∧ B i < 128) {i : Nat} : ∀ (m k : Nat) (x4 : Int), i + k + m = n → (∀ j, j < k → isLe (B (i + j))) → (k ≤ 8 → x4 = ((fr 27 (sq B i k) : Nat) : Int)) → ∃ (e : Nat) (y4 : Int), vv X 90 85 [some (vP 80), some (vI (i : Int)), none, some (vI (k : Int)), some (vJ x4), none, none, none] [] σ = vv X 90 135 [some (vP 80), some (vI (i : Int)), none, some (vI ((e - i : Nat) : Int)), some (vJ y4), none, none, none] [vI (if e - i ≤ 8 then 1 else 3)] σ ∧ Run isLe B n i e ∧ (e - i ≤ 8 → y4 = ((fr 27 (sq B i (e - i)) : Nat) : Int)) := by
  intro m
  induction m with
  | zero =>
    intro k x4 e hl hx
    have no : ¬ isLe (bA B n (i + k)) := fun q => by have := ((bA_le hr).mp q).1; omega
    refine ⟨i + k, x4, ?_, ⟨by omega, fun j a1 a2 => ⟨by omega, ?_⟩, fun q => by omega⟩, fun q => ?_⟩
    · rw [bq_90_85, show w32 ((i : Int) + (k : Int)) = ((i + k : Nat) : Int) by rw [w32_id (by omega) (by omega)]; omega, m_byte hn h4 hB hr, bsome]
      dsimp +instances only
      rw [m_letter, bsome]
      dsimp +instances only
      rw [if_neg no, if_pos rfl, show i + k - i = k by omega]
      by_cases z : k ≤ 8
      · rw [if_pos (by omega), if_pos z]
      · rw [if_neg (by omega), if_neg z]
    · have := hl (j - i) (by omega)
      rwa [show i + (j - i) = j by omega] at this
    · rw [show i + k - i = k by omega] at q ⊢
      exact hx q
  | succ m ih =>
    intro k x4 e hl hx
    have wi : w32 ((i : Int) + (k : Int)) = ((i + k : Nat) : Int) := by rw [w32_id (by omega) (by omega)]; omega
    by_cases z : isLe (B (i + k))
    · have z' := z
      unfold isLe at z'
      have yes : isLe (bA B n (i + k)) := (bA_le hr).mpr ⟨by omega, z⟩
      have eb : bA B n (i + k) = B (i + k) := bA_in (by omega) (by omega)
      have hl' : ∀ j, j < k + 1 → isLe (B (i + j)) := fun j hj => by
        by_cases w : j = k
        · rw [w]; exact z
        · exact hl j (by omega)
      by_cases k8 : 8 ≤ k
      · obtain ⟨e', y4, q1, q2, q3⟩ := ih (k + 1) x4 (by omega) hl' (fun q => absurd q (by omega))
        refine ⟨e', y4, ?_, q2, q3⟩
        rw [bq_90_85, wi, m_byte hn h4 hB hr, bsome]
        dsimp +instances only
        rw [m_letter, bsome]
        dsimp +instances only
        rw [if_pos yes, if_neg i10, if_pos (by omega), bq_90_118, w32_s1 (by omega)]
        exact q1
      · obtain ⟨e', y4, q1, q2, q3⟩ := ih (k + 1) (w64 (w64 (27 * x4) + w32 (w32 (B (i + k) - 97) + 1))) (by omega) hl' (fun hk => by
          rw [hx (by omega), sq_s, fr_c]
          have b1 := fr_lt (b := 27) (by omega) (sq_lt hl)
          rw [sq_len] at b1
          have b2 := pow27 (show k ≤ 8 by omega)
          have b3 : fr 27 (sq B i k) < 282429536481 := by omega
          generalize fr 27 (sq B i k) = A at b3 ⊢
          rw [w32_id (x := B (i + k) - 97) (by omega) (by omega), w32_id (by omega) (by omega), w64_id (x := 27 * (A : Int)) (by omega) (by omega), w64_id (by omega) (by omega)]
          omega)
        refine ⟨e', y4, ?_, q2, q3⟩
        rw [bq_90_85, wi, m_byte hn h4 hB hr, bsome]
        dsimp +instances only
        rw [m_letter, bsome]
        dsimp +instances only
        rw [if_pos yes, if_neg i10, if_neg (by omega), m_byte hn h4 hB hr, bsome]
        dsimp +instances only
        rw [m_app (by rw [eb]; omega), bsome]
        dsimp +instances only
        rw [bq_90_118, w32_s1 (by omega), eb]
        exact q1
    · have no : ¬ isLe (bA B n (i + k)) := fun q => z ((bA_le hr).mp q).2
      refine ⟨i + k, x4, ?_, ⟨by omega, fun j a1 a2 => ⟨by omega, ?_⟩, fun q => z q.2⟩, fun q => ?_⟩
      · rw [bq_90_85, wi, m_byte hn h4 hB hr, bsome]
        dsimp +instances only
        rw [m_letter, bsome]
        dsimp +instances only
        rw [if_neg no, if_pos rfl, show i + k - i = k by omega]
        by_cases y : k ≤ 8
        · rw [if_pos (by omega), if_pos y]
        · rw [if_neg (by omega), if_neg y]
      · have := hl (j - i) (by omega)
        rwa [show i + (j - i) = j by omega] at this
      · rw [show i + k - i = k by omega] at q ⊢
        exact hx q
end CU
