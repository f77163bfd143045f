/-! THE CLASS: SWALLOW, AN HOUR, BEGIN -/
/-- an hour's emptying, the first i men -/
def hrA (T : am_Sg) (r : Nat → Int) (i : Nat) : Nat → Int := fun j => if j < i then (if r j ≤ T 15 j then 0 else r j - T 15 j) else if 8 ≤ j ∧ j < 8 + i then (if r j ≤ 0 then 0 else r j - 1) else r j
theorem hrA_0 (T : am_Sg) (r : Nat → Int) : hrA T r 0 = r := by
  funext j
  unfold hrA
  rw [if_neg (by omega), if_neg (by omega)]
theorem hrA_s {T : am_Sg} {r : Nat → Int} {i : Nat} (h : i < 8) : up (up (hrA T r i) i (if r i ≤ T 15 i then 0 else r i - T 15 i)) (8 + i) (if r (8 + i) ≤ 0 then 0 else r (8 + i) - 1) = hrA T r (i + 1) := by
  funext j
  rw [upa, upa]
  unfold hrA
  by_cases h1 : j = 8 + i
  · rw [if_pos h1, h1, if_neg (show ¬ 8 + i < i + 1 by omega), if_pos (show 8 ≤ 8 + i ∧ 8 + i < 8 + (i + 1) by omega)]
  · rw [if_neg h1]
    by_cases h2 : j = i
    · rw [if_pos h2, h2, if_pos (show i < i + 1 by omega)]
    · rw [if_neg h2]
      by_cases h3 : j < i
      · rw [if_pos h3, if_pos (show j < i + 1 by omega)]
      · rw [if_neg h3, if_neg (show ¬ j < i + 1 by omega)]
        by_cases h4 : 8 ≤ j ∧ j < 8 + i
        · rw [if_pos h4, if_pos (show 8 ≤ j ∧ j < 8 + (i + 1) by omega)]
        · rw [if_neg h4, if_neg (show ¬ (8 ≤ j ∧ j < 8 + (i + 1)) by omega)]
/-- the row behind the men's loop, the hour told on -/
theorem hrS_of {T : am_Sg} (H : TOk T) {r : Nat → Int} (h23 : r 44 ≤ 23) {R : Nat → Int} (h1 : r 44 < 23 → R = up (hrA T r (nM T)) 44 (r 44 + 1)) (h2 : ¬ r 44 < 23 → ∀ j, j < 46 → R j = if j = 44 then 0 else if j = 45 then w32 (r 45 + 1) else if (24 ≤ j ∧ j < 32) ∨ j = 42 ∨ j = 43 then 0 else hrA T r (nM T) j) : rs R = hrS T (rs r) := by
  have h8 := H.m8
  funext j
  by_cases hj : j < 46
  · rw [rs_in hj]
    unfold hrS
    rw [if_pos hj, rs_in (f := r) (show 44 < 46 by omega), rs_in (f := r) (show 45 < 46 by omega)]
    have eh : ∀ j, j < 46 → hr1 T (rs r) j = hrA T r (nM T) j := by
      intro j hj
      unfold hr1 hrA
      rw [rs_in hj]
    by_cases z : r 44 < 23
    · rw [h1 z, upa, if_pos z, if_pos z]
      by_cases y : j = 44
      · rw [if_pos y, if_pos y]
      · rw [if_neg y, if_neg y, eh j hj]
    · rw [h2 z j hj, if_neg z, if_neg z, eh j hj]
  · rw [rs_hi hj]
    unfold hrS
    rw [if_neg hj]
theorem swS_of {T : am_Sg} (H : TOk T) {m g : Nat} (hm : m < nM T) (hg : g < 2) {b sc R : Nat → Int}
    (q1 : R m = sc m + bulkS T b) (q2 : R (16 + m) = w32 (sc (16 + m) + numS b)) (q3 : R (24 + m) = 1) (q4 : R (40 + g) = w32 (sc (40 + g) + gainS T b)) (q5 : R (42 + g) = w32 (sc (42 + g) + 1)) (q6 : ∀ d, d < 4 → R (32 + d) = sc (32 + d) - b d) (q7 : ∀ d, d < 4 → R (36 + d) = w32 (sc (36 + d) + b d)) (q8 : R (8 + m) = @ite _ (∃ d, d < nD T ∧ 0 < T 19 (4 * m + d) ∧ T 19 (4 * m + d) ≤ b d) (Classical.propDecidable _) 12 (sc (8 + m)))
    (q9 : ∀ j, j < 46 → ¬ j = m → ¬ j = 8 + m → ¬ j = 16 + m → ¬ j = 24 + m → ¬ j = 40 + g → ¬ j = 42 + g → ¬ (32 ≤ j ∧ j < 40) → R j = sc j) : rs R = swS T (rs sc) m g b := by
  have h8 := H.m8
  funext j
  by_cases hj : j < 46
  · rw [rs_in hj]
    unfold swS
    rw [rs_in (f := sc) hj, rs_in (f := sc) (show m < 46 by omega)]
    by_cases a1 : j = m
    · rw [if_pos a1, a1, q1]
    rw [if_neg a1]
    by_cases a2 : j = 16 + m
    · rw [if_pos a2, a2, q2]
    rw [if_neg a2]
    by_cases a3 : j = 24 + m
    · rw [if_pos a3, a3, q3]
    rw [if_neg a3]
    by_cases a4 : j = 40 + g
    · rw [if_pos a4, a4, q4]
    rw [if_neg a4]
    by_cases a5 : j = 42 + g
    · rw [if_pos a5, a5, q5]
    rw [if_neg a5]
    by_cases a6 : 32 ≤ j ∧ j < 36
    · rw [if_pos a6]
      have := q6 (j - 32) (by omega)
      rw [show 32 + (j - 32) = j by omega] at this
      exact this
    rw [if_neg a6]
    by_cases a7 : 36 ≤ j ∧ j < 40
    · rw [if_pos a7]
      have := q7 (j - 36) (by omega)
      rw [show 36 + (j - 36) = j by omega] at this
      exact this
    rw [if_neg a7]
    by_cases a8 : j = 8 + m
    · rw [if_pos a8, a8, q8]
    rw [if_neg a8]
    exact q9 j hj a1 a8 a2 a3 a4 a5 (by omega)
  · rw [rs_hi hj]
    unfold swS
    rw [if_neg (by omega), if_neg (by omega), if_neg (by omega), if_neg (by omega), if_neg (by omega), if_neg (by omega), if_neg (by omega), if_neg (by omega), rs_hi hj]
/-- the row behind the dishes' loop: i dishes done -/
def swR (b r : Nat → Int) (i : Nat) : Nat → Int := fun j => if 32 ≤ j ∧ j < 32 + i then w32 (r j - b (j - 32)) else if 36 ≤ j ∧ j < 36 + i then w32 (r j + b (j - 36)) else r j
theorem swR_0 (b r : Nat → Int) : swR b r 0 = r := by
  funext j
  unfold swR
  rw [if_neg (by omega), if_neg (by omega)]
theorem swR_s {b r : Nat → Int} {i : Nat} (h : i < 4) : up (up (swR b r i) (32 + i) (w32 (r (32 + i) - b i))) (36 + i) (w32 (r (36 + i) + b i)) = swR b r (i + 1) := by
  funext j
  rw [upa, upa]
  unfold swR
  by_cases h1 : j = 36 + i
  · rw [if_pos h1, h1, if_neg (by omega), if_pos (by omega), show 36 + i - 36 = i by omega]
  · rw [if_neg h1]
    by_cases h2 : j = 32 + i
    · rw [if_pos h2, h2, if_pos (by omega), show 32 + i - 32 = i by omega]
    · rw [if_neg h2]
      by_cases h3 : 32 ≤ j ∧ j < 32 + i
      · rw [if_pos h3, if_pos (by omega)]
      · rw [if_neg h3, if_neg (show ¬ (32 ≤ j ∧ j < 32 + (i + 1)) by omega)]
        by_cases h4 : 36 ≤ j ∧ j < 36 + i
        · rw [if_pos h4, if_pos (show 36 ≤ j ∧ j < 36 + (i + 1) by omega)]
        · rw [if_neg h4, if_neg (show ¬ (36 ≤ j ∧ j < 36 + (i + 1)) by omega)]
theorem swR_lo {b r : Nat → Int} {i j : Nat} (h : i ≤ 4) (hj : j < 32 ∨ 40 ≤ j) : swR b r i j = r j := by
  unfold swR
  rw [if_neg (by omega), if_neg (by omega)]
theorem w_ix {c x : Nat} (h : c + x < 2147483648) : w32 ((c : Int) + (x : Int)) = ((c + x : Nat) : Int) := w32_ad (i := c) (c := x) h
theorem w_ix0 (x : Nat) (h : x < 2147483648) : w32 (0 + (x : Int)) = (x : Int) := by rw [Int.zero_add, w32_nat h]
section CSW
variable {X m g : Nat} {σ T : am_Sg} {b : Nat → Int}
theorem c_thru_49_53 (hm : m < 8) (hg : g < 2) (hp : PL T σ 53 b) : vcV X 204 [vP 49, vI (m : Int), vI (g : Int), vP 53] σ = some (am_row σ 50 (swR b (up (up (up (up (up (σ 50) m (w32 (σ 50 m + bulkS T b))) (16 + m) (w32 (σ 50 (16 + m) + numS b))) (24 + m) 1) (40 + g) (w32 (σ 50 (40 + g) + gainS T b))) (42 + g) (w32 (σ 50 (42 + g) + 1))) 4)) := by
  refine vV_of ((bq_204a_0 X _ _ σ).trans ?_) rfl
  rw [w_ix0 m (by omega), show w32 (16 + (m : Int)) = ((16 + m : Nat) : Int) from w_ix (c := 16) (by omega), if_pos (by omega), if_pos (by omega), bq_204a_31, show w32 (24 + (m : Int)) = ((24 + m : Nat) : Int) from w_ix (c := 24) (by omega), show w32 (40 + (g : Int)) = ((40 + g : Nat) : Int) from w_ix (c := 40) (by omega), if_pos (by omega), if_pos (by omega), bq_204a_57, show w32 (42 + (g : Int)) = ((42 + g : Nat) : Int) from w_ix (c := 42) (by omega), if_pos (by omega)]
  simp only [tn_nat, uu, re, rr, rn _ (show ¬ (53 : Nat) = 50 by decide), hp.2.1, hp.2.2.1, hp.2.2.2.1]
  rw [upn (show ¬ 16 + m = m by omega), upn (show ¬ 40 + g = 24 + m by omega), upn (show ¬ 40 + g = 16 + m by omega), upn (show ¬ 40 + g = m by omega), upn (show ¬ 42 + g = 40 + g by omega), upn (show ¬ 42 + g = 24 + m by omega), upn (show ¬ 42 + g = 16 + m by omega), upn (show ¬ 42 + g = m by omega)]
  generalize up (up (up (up (up (σ 50) m (w32 (σ 50 m + bulkS T b))) (16 + m) (w32 (σ 50 (16 + m) + numS b))) (24 + m) 1) (40 + g) (w32 (σ 50 (40 + g) + gainS T b))) (42 + g) (w32 (σ 50 (42 + g) + 1)) = r
  obtain ⟨r', e, hr⟩ := lp (fun i (R : Nat → Int) => vv X 204 73 [some (vP 49), none, none, some (vP 53), some (vI (i : Int))] [] (am_row σ 50 R)) 4 (fun i R => R = swR b r i) (fun i R hi hR => by
    refine ⟨_, ?_, (swR_s (b := b) (r := r) hi).symm.symm⟩
    show vv X 204 73 [some (vP 49), none, none, some (vP 53), some (vI (i : Int))] [] (am_row σ 50 R) = vv X 204 73 [some (vP 49), none, none, some (vP 53), some (vI ((i + 1 : Nat) : Int))] [] _
    rw [bq_204a_73, if_neg (by omega), show w32 (32 + (i : Int)) = ((32 + i : Nat) : Int) from w_ix (c := 32) (by omega), show w32 (36 + (i : Int)) = ((36 + i : Nat) : Int) from w_ix (c := 36) (by omega), if_pos (by omega), if_pos (by omega), if_pos (by omega), bq_204a_119, w32_s1 (by omega)]
    simp only [tn_nat, uu, re, rr, rn _ (show ¬ (54 : Nat) = 50 by decide)]
    rw [upn (show ¬ 36 + i = 32 + i by omega), show σ 54 i = b i from hp.at hi, hR]
    have a1 : swR b r i (32 + i) = r (32 + i) := by
      unfold swR
      rw [if_neg (by omega), if_neg (by omega)]
    have a2 : swR b r i (36 + i) = r (36 + i) := by
      unfold swR
      rw [if_neg (by omega), if_neg (by omega)]
    rw [a1, a2]) 4 0 r (by omega) (swR_0 b r).symm
  refine Eq.trans e ?_
  show vv X 204 73 [some (vP 49), none, none, some (vP 53), some (vI 4)] [] (am_row σ 50 r') = _
  rw [bq_204a_73, if_pos (Int.le_refl _), hr]
theorem c_sw_49_53 (H : TOk T) (hT : tl σ = T) (hm : m < nM T) (hg : g < 2) (hp : PL T σ 53 b) (hb : BOk T b 12) (S : ScOk T (rs (σ 50))) : ∃ σ', vcV X 114 [vP 57, vP 49, vI (m : Int), vI (g : Int), vP 53] σ = some σ' ∧ Fr [50] [] σ σ' ∧ rs (σ' 50) = swS T (rs (σ 50)) m g b := by
  have h8 := H.m8
  have h4 := H.d4
  have b1 := bulk_bd H hb (by omega)
  have b0 := S.1 m hm
  rw [rs_in (show m < 46 by omega), rs_in (show 8 + m < 46 by omega)] at b0
  have hM := H.mi m hm
  generalize hr : up (up (up (up (up (σ 50) m (w32 (σ 50 m + bulkS T b))) (16 + m) (w32 (σ 50 (16 + m) + numS b))) (24 + m) 1) (40 + g) (w32 (σ 50 (40 + g) + gainS T b))) (42 + g) (w32 (σ 50 (42 + g) + 1)) = r
  have r8 : ∀ x, swR b r 4 x = swR b r 4 x := fun _ => rfl
  obtain ⟨y, e, hy, hy2⟩ := lp (fun i (y : Int) => vv X 114 11 [some (vP 57), some (vP 49), some (vI (m : Int)), none, some (vP 53), some (vI (i : Int)), none] [] (am_row σ 50 (up (swR b r 4) (8 + m) y))) (nD T) (fun i y => ((∃ d, d < i ∧ 0 < T 19 (4 * m + d) ∧ T 19 (4 * m + d) ≤ b d) → y = 12) ∧ ((¬ ∃ d, d < i ∧ 0 < T 19 (4 * m + d) ∧ T 19 (4 * m + d) ≤ b d) → y = σ 50 (8 + m))) (fun i y hi hy => by
    show ∃ s', vv X 114 11 [some (vP 57), some (vP 49), some (vI (m : Int)), none, some (vP 53), some (vI (i : Int)), none] [] (am_row σ 50 (up (swR b r 4) (8 + m) y)) = vv X 114 11 [some (vP 57), some (vP 49), some (vI (m : Int)), none, some (vP 53), some (vI ((i + 1 : Nat) : Int)), none] [] _ ∧ _
    rw [bq_114a_11, g_dishes, bsome]
    dsimp +instances only
    simp only [rn _ (show ¬ (8 : Nat) = 50 by decide), rn _ (show ¬ (19 : Nat) = 50 by decide), rn _ (show ¬ (54 : Nat) = 50 by decide)]
    rw [tl_at hT (k := 8) (by omega), tl_at hT (k := 19) (by omega), H.d0, if_neg (by omega), ixm4 (by omega) (by omega), if_pos (by omega), tn_nat, tn_nat, show σ 54 i = b i from hp.at (by omega)]
    have nx : ¬ (0 < T 19 (4 * m + i) ∧ T 19 (4 * m + i) ≤ b i) → ((∃ d, d < i + 1 ∧ 0 < T 19 (4 * m + d) ∧ T 19 (4 * m + d) ≤ b d) ↔ ∃ d, d < i ∧ 0 < T 19 (4 * m + d) ∧ T 19 (4 * m + d) ≤ b d) := by
      intro hn
      constructor
      · rintro ⟨d, h1, h2⟩
        by_cases z : d = i
        · subst z
          exact absurd h2 hn
        · exact ⟨d, by omega, h2⟩
      · rintro ⟨d, h1, h2⟩
        exact ⟨d, by omega, h2⟩
    by_cases z1 : T 19 (4 * m + i) ≤ 0
    · rw [if_pos z1, bq_114a_62, w32_s1 (by omega)]
      refine ⟨y, rfl, ?_⟩
      rw [nx (fun q => by omega)]
      exact hy
    · rw [if_neg z1, if_pos (by omega)]
      by_cases z2 : b i < T 19 (4 * m + i)
      · rw [if_pos z2, bq_114a_62, w32_s1 (by omega)]
        refine ⟨y, rfl, ?_⟩
        rw [nx (fun q => by omega)]
        exact hy
      · rw [if_neg z2, vV_of ((bq_205a_0 X _ _).trans (by rw [show w32 (8 + (m : Int)) = ((8 + m : Nat) : Int) from w_ix (c := 8) (by omega), if_pos (by omega), tn_nat, ur])) rfl, bsome, bq_114a_62, w32_s1 (by omega)]
        refine ⟨12, ?_, fun _ => rfl, fun q => absurd ⟨i, by omega, by omega, by omega⟩ q⟩
        congr 2
        funext j
        rw [upa, upa, upa]
        by_cases x : j = 8 + m
        · rw [if_pos x, if_pos x]
        · rw [if_neg x, if_neg x, if_neg x]) (nD T) 0 (swR b r 4 (8 + m)) (by omega) ⟨fun ⟨d, h1, _⟩ => absurd h1 (Nat.not_lt_zero d), fun _ => by
      rw [swR_lo (by omega) (by omega), ← hr]
      rw [upn (by omega), upn (by omega), upn (by omega), upn (by omega), upn (by omega)]⟩
  refine ⟨am_row σ 50 (up (swR b r 4) (8 + m) y), ?_, Fr.rf.row rfl (by decide), ?_⟩
  · refine vV_of ((bq_114a_0 X _ _ σ).trans ?_) rfl
    rw [c_thru_49_53 (by omega) hg hp, bsome, hr]
    have e0 : up (swR b r 4) (8 + m) (swR b r 4 (8 + m)) = swR b r 4 := by
      funext j
      rw [upa]
      by_cases x : j = 8 + m
      · rw [if_pos x, x]
      · rw [if_neg x]
    rw [e0] at e
    refine Eq.trans e ?_
    show vv X 114 11 [some (vP 57), some (vP 49), some (vI (m : Int)), none, some (vP 53), some (vI (nD T : Int)), none] [] _ = _
    rw [bq_114a_11, g_dishes, bsome]
    dsimp +instances only
    simp only [rn _ (show ¬ (8 : Nat) = 50 by decide)]
    rw [tl_at hT (k := 8) (by omega), H.d0, if_pos (Int.le_refl _)]
  · rw [re]
    refine swS_of H hm hg ?_ ?_ ?_ ?_ ?_ (fun d hd => ?_) (fun d hd => ?_) ?_ (fun j k0 k1 k2 k3 k4 k5 k6 k7 => ?_)
    · rw [upn (by omega), swR_lo (by omega) (by omega), ← hr, upn (by omega), upn (by omega), upn (by omega), upn (by omega), upe, w32_id (by omega) (by omega)]
    · rw [upn (by omega), swR_lo (by omega) (by omega), ← hr, upn (by omega), upn (by omega), upn (by omega), upe]
    · rw [upn (by omega), swR_lo (by omega) (by omega), ← hr, upn (by omega), upn (by omega), upe]
    · rw [upn (by omega), swR_lo (by omega) (by omega), ← hr, upn (by omega), upe]
    · rw [upn (by omega), swR_lo (by omega) (by omega), ← hr, upe]
    · have hs := S.2.1 d hd
      rw [rs_in (by omega)] at hs
      have hbd := hb.1 d hd
      rw [upn (by omega)]
      unfold swR
      rw [if_pos (by omega), show 32 + d - 32 = d by omega, ← hr, upn (by omega), upn (by omega), upn (by omega), upn (by omega), upn (by omega), w32_id (by omega) (by omega)]
    · rw [upn (by omega)]
      unfold swR
      rw [if_neg (by omega), if_pos (by omega), show 36 + d - 36 = d by omega, ← hr, upn (by omega), upn (by omega), upn (by omega), upn (by omega), upn (by omega)]
    · rw [upe]
      by_cases z : ∃ d, d < nD T ∧ 0 < T 19 (4 * m + d) ∧ T 19 (4 * m + d) ≤ b d
      · rw [if_pos z, hy z]
      · rw [if_neg z, hy2 z]
    · rw [upn (by omega), swR_lo (by omega) (by omega), ← hr, upn (by omega), upn (by omega), upn (by omega), upn (by omega), upn (by omega)]
theorem c_thru_51_53 (hm : m < 8) (hg : g < 2) (hp : PL T σ 53 b) : vcV X 204 [vP 51, vI (m : Int), vI (g : Int), vP 53] σ = some (am_row σ 52 (swR b (up (up (up (up (up (σ 52) m (w32 (σ 52 m + bulkS T b))) (16 + m) (w32 (σ 52 (16 + m) + numS b))) (24 + m) 1) (40 + g) (w32 (σ 52 (40 + g) + gainS T b))) (42 + g) (w32 (σ 52 (42 + g) + 1))) 4)) := by
  refine vV_of ((bq_204b_0 X _ _ σ).trans ?_) rfl
  rw [w_ix0 m (by omega), show w32 (16 + (m : Int)) = ((16 + m : Nat) : Int) from w_ix (c := 16) (by omega), if_pos (by omega), if_pos (by omega), bq_204b_31, show w32 (24 + (m : Int)) = ((24 + m : Nat) : Int) from w_ix (c := 24) (by omega), show w32 (40 + (g : Int)) = ((40 + g : Nat) : Int) from w_ix (c := 40) (by omega), if_pos (by omega), if_pos (by omega), bq_204b_57, show w32 (42 + (g : Int)) = ((42 + g : Nat) : Int) from w_ix (c := 42) (by omega), if_pos (by omega)]
  simp only [tn_nat, uu, re, rr, rn _ (show ¬ (53 : Nat) = 52 by decide), hp.2.1, hp.2.2.1, hp.2.2.2.1]
  rw [upn (show ¬ 16 + m = m by omega), upn (show ¬ 40 + g = 24 + m by omega), upn (show ¬ 40 + g = 16 + m by omega), upn (show ¬ 40 + g = m by omega), upn (show ¬ 42 + g = 40 + g by omega), upn (show ¬ 42 + g = 24 + m by omega), upn (show ¬ 42 + g = 16 + m by omega), upn (show ¬ 42 + g = m by omega)]
  generalize up (up (up (up (up (σ 52) m (w32 (σ 52 m + bulkS T b))) (16 + m) (w32 (σ 52 (16 + m) + numS b))) (24 + m) 1) (40 + g) (w32 (σ 52 (40 + g) + gainS T b))) (42 + g) (w32 (σ 52 (42 + g) + 1)) = r
  obtain ⟨r', e, hr⟩ := lp (fun i (R : Nat → Int) => vv X 204 73 [some (vP 51), none, none, some (vP 53), some (vI (i : Int))] [] (am_row σ 52 R)) 4 (fun i R => R = swR b r i) (fun i R hi hR => by
    refine ⟨_, ?_, (swR_s (b := b) (r := r) hi).symm.symm⟩
    show vv X 204 73 [some (vP 51), none, none, some (vP 53), some (vI (i : Int))] [] (am_row σ 52 R) = vv X 204 73 [some (vP 51), none, none, some (vP 53), some (vI ((i + 1 : Nat) : Int))] [] _
    rw [bq_204b_73, if_neg (by omega), show w32 (32 + (i : Int)) = ((32 + i : Nat) : Int) from w_ix (c := 32) (by omega), show w32 (36 + (i : Int)) = ((36 + i : Nat) : Int) from w_ix (c := 36) (by omega), if_pos (by omega), if_pos (by omega), if_pos (by omega), bq_204b_119, w32_s1 (by omega)]
    simp only [tn_nat, uu, re, rr, rn _ (show ¬ (54 : Nat) = 52 by decide)]
    rw [upn (show ¬ 36 + i = 32 + i by omega), show σ 54 i = b i from hp.at hi, hR]
    have a1 : swR b r i (32 + i) = r (32 + i) := by
      unfold swR
      rw [if_neg (by omega), if_neg (by omega)]
    have a2 : swR b r i (36 + i) = r (36 + i) := by
      unfold swR
      rw [if_neg (by omega), if_neg (by omega)]
    rw [a1, a2]) 4 0 r (by omega) (swR_0 b r).symm
  refine Eq.trans e ?_
  show vv X 204 73 [some (vP 51), none, none, some (vP 53), some (vI 4)] [] (am_row σ 52 r') = _
  rw [bq_204b_73, if_pos (Int.le_refl _), hr]
theorem c_sw_51_53 (H : TOk T) (hT : tl σ = T) (hm : m < nM T) (hg : g < 2) (hp : PL T σ 53 b) (hb : BOk T b 12) (S : ScOk T (rs (σ 52))) : ∃ σ', vcV X 114 [vP 57, vP 51, vI (m : Int), vI (g : Int), vP 53] σ = some σ' ∧ Fr [52] [] σ σ' ∧ rs (σ' 52) = swS T (rs (σ 52)) m g b := by
  have h8 := H.m8
  have h4 := H.d4
  have b1 := bulk_bd H hb (by omega)
  have b0 := S.1 m hm
  rw [rs_in (show m < 46 by omega), rs_in (show 8 + m < 46 by omega)] at b0
  have hM := H.mi m hm
  generalize hr : up (up (up (up (up (σ 52) m (w32 (σ 52 m + bulkS T b))) (16 + m) (w32 (σ 52 (16 + m) + numS b))) (24 + m) 1) (40 + g) (w32 (σ 52 (40 + g) + gainS T b))) (42 + g) (w32 (σ 52 (42 + g) + 1)) = r
  have r8 : ∀ x, swR b r 4 x = swR b r 4 x := fun _ => rfl
  obtain ⟨y, e, hy, hy2⟩ := lp (fun i (y : Int) => vv X 114 11 [some (vP 57), some (vP 51), some (vI (m : Int)), none, some (vP 53), some (vI (i : Int)), none] [] (am_row σ 52 (up (swR b r 4) (8 + m) y))) (nD T) (fun i y => ((∃ d, d < i ∧ 0 < T 19 (4 * m + d) ∧ T 19 (4 * m + d) ≤ b d) → y = 12) ∧ ((¬ ∃ d, d < i ∧ 0 < T 19 (4 * m + d) ∧ T 19 (4 * m + d) ≤ b d) → y = σ 52 (8 + m))) (fun i y hi hy => by
    show ∃ s', vv X 114 11 [some (vP 57), some (vP 51), some (vI (m : Int)), none, some (vP 53), some (vI (i : Int)), none] [] (am_row σ 52 (up (swR b r 4) (8 + m) y)) = vv X 114 11 [some (vP 57), some (vP 51), some (vI (m : Int)), none, some (vP 53), some (vI ((i + 1 : Nat) : Int)), none] [] _ ∧ _
    rw [bq_114b_11, g_dishes, bsome]
    dsimp +instances only
    simp only [rn _ (show ¬ (8 : Nat) = 52 by decide), rn _ (show ¬ (19 : Nat) = 52 by decide), rn _ (show ¬ (54 : Nat) = 52 by decide)]
    rw [tl_at hT (k := 8) (by omega), tl_at hT (k := 19) (by omega), H.d0, if_neg (by omega), ixm4 (by omega) (by omega), if_pos (by omega), tn_nat, tn_nat, show σ 54 i = b i from hp.at (by omega)]
    have nx : ¬ (0 < T 19 (4 * m + i) ∧ T 19 (4 * m + i) ≤ b i) → ((∃ d, d < i + 1 ∧ 0 < T 19 (4 * m + d) ∧ T 19 (4 * m + d) ≤ b d) ↔ ∃ d, d < i ∧ 0 < T 19 (4 * m + d) ∧ T 19 (4 * m + d) ≤ b d) := by
      intro hn
      constructor
      · rintro ⟨d, h1, h2⟩
        by_cases z : d = i
        · subst z
          exact absurd h2 hn
        · exact ⟨d, by omega, h2⟩
      · rintro ⟨d, h1, h2⟩
        exact ⟨d, by omega, h2⟩
    by_cases z1 : T 19 (4 * m + i) ≤ 0
    · rw [if_pos z1, bq_114b_62, w32_s1 (by omega)]
      refine ⟨y, rfl, ?_⟩
      rw [nx (fun q => by omega)]
      exact hy
    · rw [if_neg z1, if_pos (by omega)]
      by_cases z2 : b i < T 19 (4 * m + i)
      · rw [if_pos z2, bq_114b_62, w32_s1 (by omega)]
        refine ⟨y, rfl, ?_⟩
        rw [nx (fun q => by omega)]
        exact hy
      · rw [if_neg z2, vV_of ((bq_205b_0 X _ _).trans (by rw [show w32 (8 + (m : Int)) = ((8 + m : Nat) : Int) from w_ix (c := 8) (by omega), if_pos (by omega), tn_nat, ur])) rfl, bsome, bq_114b_62, w32_s1 (by omega)]
        refine ⟨12, ?_, fun _ => rfl, fun q => absurd ⟨i, by omega, by omega, by omega⟩ q⟩
        congr 2
        funext j
        rw [upa, upa, upa]
        by_cases x : j = 8 + m
        · rw [if_pos x, if_pos x]
        · rw [if_neg x, if_neg x, if_neg x]) (nD T) 0 (swR b r 4 (8 + m)) (by omega) ⟨fun ⟨d, h1, _⟩ => absurd h1 (Nat.not_lt_zero d), fun _ => by
      rw [swR_lo (by omega) (by omega), ← hr]
      rw [upn (by omega), upn (by omega), upn (by omega), upn (by omega), upn (by omega)]⟩
  refine ⟨am_row σ 52 (up (swR b r 4) (8 + m) y), ?_, Fr.rf.row rfl (by decide), ?_⟩
  · refine vV_of ((bq_114b_0 X _ _ σ).trans ?_) rfl
    rw [c_thru_51_53 (by omega) hg hp, bsome, hr]
    have e0 : up (swR b r 4) (8 + m) (swR b r 4 (8 + m)) = swR b r 4 := by
      funext j
      rw [upa]
      by_cases x : j = 8 + m
      · rw [if_pos x, x]
      · rw [if_neg x]
    rw [e0] at e
    refine Eq.trans e ?_
    show vv X 114 11 [some (vP 57), some (vP 51), some (vI (m : Int)), none, some (vP 53), some (vI (nD T : Int)), none] [] _ = _
    rw [bq_114b_11, g_dishes, bsome]
    dsimp +instances only
    simp only [rn _ (show ¬ (8 : Nat) = 52 by decide)]
    rw [tl_at hT (k := 8) (by omega), H.d0, if_pos (Int.le_refl _)]
  · rw [re]
    refine swS_of H hm hg ?_ ?_ ?_ ?_ ?_ (fun d hd => ?_) (fun d hd => ?_) ?_ (fun j k0 k1 k2 k3 k4 k5 k6 k7 => ?_)
    · rw [upn (by omega), swR_lo (by omega) (by omega), ← hr, upn (by omega), upn (by omega), upn (by omega), upn (by omega), upe, w32_id (by omega) (by omega)]
    · rw [upn (by omega), swR_lo (by omega) (by omega), ← hr, upn (by omega), upn (by omega), upn (by omega), upe]
    · rw [upn (by omega), swR_lo (by omega) (by omega), ← hr, upn (by omega), upn (by omega), upe]
    · rw [upn (by omega), swR_lo (by omega) (by omega), ← hr, upn (by omega), upe]
    · rw [upn (by omega), swR_lo (by omega) (by omega), ← hr, upe]
    · have hs := S.2.1 d hd
      rw [rs_in (by omega)] at hs
      have hbd := hb.1 d hd
      rw [upn (by omega)]
      unfold swR
      rw [if_pos (by omega), show 32 + d - 32 = d by omega, ← hr, upn (by omega), upn (by omega), upn (by omega), upn (by omega), upn (by omega), w32_id (by omega) (by omega)]
    · rw [upn (by omega)]
      unfold swR
      rw [if_neg (by omega), if_pos (by omega), show 36 + d - 36 = d by omega, ← hr, upn (by omega), upn (by omega), upn (by omega), upn (by omega), upn (by omega)]
    · rw [upe]
      by_cases z : ∃ d, d < nD T ∧ 0 < T 19 (4 * m + d) ∧ T 19 (4 * m + d) ≤ b d
      · rw [if_pos z, hy z]
      · rw [if_neg z, hy2 z]
    · rw [upn (by omega), swR_lo (by omega) (by omega), ← hr, upn (by omega), upn (by omega), upn (by omega), upn (by omega), upn (by omega)]
theorem c_thru_51_55 (hm : m < 8) (hg : g < 2) (hp : PL T σ 55 b) : vcV X 204 [vP 51, vI (m : Int), vI (g : Int), vP 55] σ = some (am_row σ 52 (swR b (up (up (up (up (up (σ 52) m (w32 (σ 52 m + bulkS T b))) (16 + m) (w32 (σ 52 (16 + m) + numS b))) (24 + m) 1) (40 + g) (w32 (σ 52 (40 + g) + gainS T b))) (42 + g) (w32 (σ 52 (42 + g) + 1))) 4)) := by
  refine vV_of ((bq_204c_0 X _ _ σ).trans ?_) rfl
  rw [w_ix0 m (by omega), show w32 (16 + (m : Int)) = ((16 + m : Nat) : Int) from w_ix (c := 16) (by omega), if_pos (by omega), if_pos (by omega), bq_204c_31, show w32 (24 + (m : Int)) = ((24 + m : Nat) : Int) from w_ix (c := 24) (by omega), show w32 (40 + (g : Int)) = ((40 + g : Nat) : Int) from w_ix (c := 40) (by omega), if_pos (by omega), if_pos (by omega), bq_204c_57, show w32 (42 + (g : Int)) = ((42 + g : Nat) : Int) from w_ix (c := 42) (by omega), if_pos (by omega)]
  simp only [tn_nat, uu, re, rr, rn _ (show ¬ (55 : Nat) = 52 by decide), hp.2.1, hp.2.2.1, hp.2.2.2.1]
  rw [upn (show ¬ 16 + m = m by omega), upn (show ¬ 40 + g = 24 + m by omega), upn (show ¬ 40 + g = 16 + m by omega), upn (show ¬ 40 + g = m by omega), upn (show ¬ 42 + g = 40 + g by omega), upn (show ¬ 42 + g = 24 + m by omega), upn (show ¬ 42 + g = 16 + m by omega), upn (show ¬ 42 + g = m by omega)]
  generalize up (up (up (up (up (σ 52) m (w32 (σ 52 m + bulkS T b))) (16 + m) (w32 (σ 52 (16 + m) + numS b))) (24 + m) 1) (40 + g) (w32 (σ 52 (40 + g) + gainS T b))) (42 + g) (w32 (σ 52 (42 + g) + 1)) = r
  obtain ⟨r', e, hr⟩ := lp (fun i (R : Nat → Int) => vv X 204 73 [some (vP 51), none, none, some (vP 55), some (vI (i : Int))] [] (am_row σ 52 R)) 4 (fun i R => R = swR b r i) (fun i R hi hR => by
    refine ⟨_, ?_, (swR_s (b := b) (r := r) hi).symm.symm⟩
    show vv X 204 73 [some (vP 51), none, none, some (vP 55), some (vI (i : Int))] [] (am_row σ 52 R) = vv X 204 73 [some (vP 51), none, none, some (vP 55), some (vI ((i + 1 : Nat) : Int))] [] _
    rw [bq_204c_73, if_neg (by omega), show w32 (32 + (i : Int)) = ((32 + i : Nat) : Int) from w_ix (c := 32) (by omega), show w32 (36 + (i : Int)) = ((36 + i : Nat) : Int) from w_ix (c := 36) (by omega), if_pos (by omega), if_pos (by omega), if_pos (by omega), bq_204c_119, w32_s1 (by omega)]
    simp only [tn_nat, uu, re, rr, rn _ (show ¬ (56 : Nat) = 52 by decide)]
    rw [upn (show ¬ 36 + i = 32 + i by omega), show σ 56 i = b i from hp.at hi, hR]
    have a1 : swR b r i (32 + i) = r (32 + i) := by
      unfold swR
      rw [if_neg (by omega), if_neg (by omega)]
    have a2 : swR b r i (36 + i) = r (36 + i) := by
      unfold swR
      rw [if_neg (by omega), if_neg (by omega)]
    rw [a1, a2]) 4 0 r (by omega) (swR_0 b r).symm
  refine Eq.trans e ?_
  show vv X 204 73 [some (vP 51), none, none, some (vP 55), some (vI 4)] [] (am_row σ 52 r') = _
  rw [bq_204c_73, if_pos (Int.le_refl _), hr]
theorem c_sw_51_55 (H : TOk T) (hT : tl σ = T) (hm : m < nM T) (hg : g < 2) (hp : PL T σ 55 b) (hb : BOk T b 12) (S : ScOk T (rs (σ 52))) : ∃ σ', vcV X 114 [vP 57, vP 51, vI (m : Int), vI (g : Int), vP 55] σ = some σ' ∧ Fr [52] [] σ σ' ∧ rs (σ' 52) = swS T (rs (σ 52)) m g b := by
  have h8 := H.m8
  have h4 := H.d4
  have b1 := bulk_bd H hb (by omega)
  have b0 := S.1 m hm
  rw [rs_in (show m < 46 by omega), rs_in (show 8 + m < 46 by omega)] at b0
  have hM := H.mi m hm
  generalize hr : up (up (up (up (up (σ 52) m (w32 (σ 52 m + bulkS T b))) (16 + m) (w32 (σ 52 (16 + m) + numS b))) (24 + m) 1) (40 + g) (w32 (σ 52 (40 + g) + gainS T b))) (42 + g) (w32 (σ 52 (42 + g) + 1)) = r
  have r8 : ∀ x, swR b r 4 x = swR b r 4 x := fun _ => rfl
  obtain ⟨y, e, hy, hy2⟩ := lp (fun i (y : Int) => vv X 114 11 [some (vP 57), some (vP 51), some (vI (m : Int)), none, some (vP 55), some (vI (i : Int)), none] [] (am_row σ 52 (up (swR b r 4) (8 + m) y))) (nD T) (fun i y => ((∃ d, d < i ∧ 0 < T 19 (4 * m + d) ∧ T 19 (4 * m + d) ≤ b d) → y = 12) ∧ ((¬ ∃ d, d < i ∧ 0 < T 19 (4 * m + d) ∧ T 19 (4 * m + d) ≤ b d) → y = σ 52 (8 + m))) (fun i y hi hy => by
    show ∃ s', vv X 114 11 [some (vP 57), some (vP 51), some (vI (m : Int)), none, some (vP 55), some (vI (i : Int)), none] [] (am_row σ 52 (up (swR b r 4) (8 + m) y)) = vv X 114 11 [some (vP 57), some (vP 51), some (vI (m : Int)), none, some (vP 55), some (vI ((i + 1 : Nat) : Int)), none] [] _ ∧ _
    rw [bq_114c_11, g_dishes, bsome]
    dsimp +instances only
    simp only [rn _ (show ¬ (8 : Nat) = 52 by decide), rn _ (show ¬ (19 : Nat) = 52 by decide), rn _ (show ¬ (56 : Nat) = 52 by decide)]
    rw [tl_at hT (k := 8) (by omega), tl_at hT (k := 19) (by omega), H.d0, if_neg (by omega), ixm4 (by omega) (by omega), if_pos (by omega), tn_nat, tn_nat, show σ 56 i = b i from hp.at (by omega)]
    have nx : ¬ (0 < T 19 (4 * m + i) ∧ T 19 (4 * m + i) ≤ b i) → ((∃ d, d < i + 1 ∧ 0 < T 19 (4 * m + d) ∧ T 19 (4 * m + d) ≤ b d) ↔ ∃ d, d < i ∧ 0 < T 19 (4 * m + d) ∧ T 19 (4 * m + d) ≤ b d) := by
      intro hn
      constructor
      · rintro ⟨d, h1, h2⟩
        by_cases z : d = i
        · subst z
          exact absurd h2 hn
        · exact ⟨d, by omega, h2⟩
      · rintro ⟨d, h1, h2⟩
        exact ⟨d, by omega, h2⟩
    by_cases z1 : T 19 (4 * m + i) ≤ 0
    · rw [if_pos z1, bq_114c_62, w32_s1 (by omega)]
      refine ⟨y, rfl, ?_⟩
      rw [nx (fun q => by omega)]
      exact hy
    · rw [if_neg z1, if_pos (by omega)]
      by_cases z2 : b i < T 19 (4 * m + i)
      · rw [if_pos z2, bq_114c_62, w32_s1 (by omega)]
        refine ⟨y, rfl, ?_⟩
        rw [nx (fun q => by omega)]
        exact hy
      · rw [if_neg z2, vV_of ((bq_205b_0 X _ _).trans (by rw [show w32 (8 + (m : Int)) = ((8 + m : Nat) : Int) from w_ix (c := 8) (by omega), if_pos (by omega), tn_nat, ur])) rfl, bsome, bq_114c_62, w32_s1 (by omega)]
        refine ⟨12, ?_, fun _ => rfl, fun q => absurd ⟨i, by omega, by omega, by omega⟩ q⟩
        congr 2
        funext j
        rw [upa, upa, upa]
        by_cases x : j = 8 + m
        · rw [if_pos x, if_pos x]
        · rw [if_neg x, if_neg x, if_neg x]) (nD T) 0 (swR b r 4 (8 + m)) (by omega) ⟨fun ⟨d, h1, _⟩ => absurd h1 (Nat.not_lt_zero d), fun _ => by
      rw [swR_lo (by omega) (by omega), ← hr]
      rw [upn (by omega), upn (by omega), upn (by omega), upn (by omega), upn (by omega)]⟩
  refine ⟨am_row σ 52 (up (swR b r 4) (8 + m) y), ?_, Fr.rf.row rfl (by decide), ?_⟩
  · refine vV_of ((bq_114c_0 X _ _ σ).trans ?_) rfl
    rw [c_thru_51_55 (by omega) hg hp, bsome, hr]
    have e0 : up (swR b r 4) (8 + m) (swR b r 4 (8 + m)) = swR b r 4 := by
      funext j
      rw [upa]
      by_cases x : j = 8 + m
      · rw [if_pos x, x]
      · rw [if_neg x]
    rw [e0] at e
    refine Eq.trans e ?_
    show vv X 114 11 [some (vP 57), some (vP 51), some (vI (m : Int)), none, some (vP 55), some (vI (nD T : Int)), none] [] _ = _
    rw [bq_114c_11, g_dishes, bsome]
    dsimp +instances only
    simp only [rn _ (show ¬ (8 : Nat) = 52 by decide)]
    rw [tl_at hT (k := 8) (by omega), H.d0, if_pos (Int.le_refl _)]
  · rw [re]
    refine swS_of H hm hg ?_ ?_ ?_ ?_ ?_ (fun d hd => ?_) (fun d hd => ?_) ?_ (fun j k0 k1 k2 k3 k4 k5 k6 k7 => ?_)
    · rw [upn (by omega), swR_lo (by omega) (by omega), ← hr, upn (by omega), upn (by omega), upn (by omega), upn (by omega), upe, w32_id (by omega) (by omega)]
    · rw [upn (by omega), swR_lo (by omega) (by omega), ← hr, upn (by omega), upn (by omega), upn (by omega), upe]
    · rw [upn (by omega), swR_lo (by omega) (by omega), ← hr, upn (by omega), upn (by omega), upe]
    · rw [upn (by omega), swR_lo (by omega) (by omega), ← hr, upn (by omega), upe]
    · rw [upn (by omega), swR_lo (by omega) (by omega), ← hr, upe]
    · have hs := S.2.1 d hd
      rw [rs_in (by omega)] at hs
      have hbd := hb.1 d hd
      rw [upn (by omega)]
      unfold swR
      rw [if_pos (by omega), show 32 + d - 32 = d by omega, ← hr, upn (by omega), upn (by omega), upn (by omega), upn (by omega), upn (by omega), w32_id (by omega) (by omega)]
    · rw [upn (by omega)]
      unfold swR
      rw [if_neg (by omega), if_pos (by omega), show 36 + d - 36 = d by omega, ← hr, upn (by omega), upn (by omega), upn (by omega), upn (by omega), upn (by omega)]
    · rw [upe]
      by_cases z : ∃ d, d < nD T ∧ 0 < T 19 (4 * m + d) ∧ T 19 (4 * m + d) ≤ b d
      · rw [if_pos z, hy z]
      · rw [if_neg z, hy2 z]
    · rw [upn (by omega), swR_lo (by omega) (by omega), ← hr, upn (by omega), upn (by omega), upn (by omega), upn (by omega), upn (by omega)]
theorem c_hour_49 (H : TOk T) (hT : tl σ = T) (S : ScOk T (rs (σ 50))) : ∃ σ', vcV X 117 [vP 49, vP 7] σ = some σ' ∧ Fr [50] [] σ σ' ∧ rs (σ' 50) = hrS T (rs (σ 50)) := by
  have h8 := H.m8
  have s44 := S.2.2.1
  rw [rs_in (by omega)] at s44
  obtain ⟨R, e, hR⟩ := lp (fun i (R : Nat → Int) => vv X 117 2 [some (vP 49), some (vP 7), some (vI (i : Int))] [] (am_row σ 50 R)) (nM T) (fun i R => R = hrA T (σ 50) i) (fun i R hi hR => by
    refine ⟨_, ?_, (hrA_s (T := T) (r := σ 50) (show i < 8 by omega)).symm.symm⟩
    show vv X 117 2 [some (vP 49), some (vP 7), some (vI (i : Int))] [] (am_row σ 50 R) = vv X 117 2 [some (vP 49), some (vP 7), some (vI ((i + 1 : Nat) : Int))] [] _
    have b0 := S.1 i hi
    rw [rs_in (show i < 46 by omega), rs_in (show 8 + i < 46 by omega)] at b0
    have hM := H.mi i hi
    rw [bq_117a_2, g_men, bsome]
    dsimp +instances only
    simp only [rn _ (show ¬ (8 : Nat) = 50 by decide), rn _ (show ¬ (15 : Nat) = 50 by decide)]
    rw [tl_at hT (k := 8) (by omega), tl_at hT (k := 15) (by omega), H.m0, if_neg (by omega), w_ix0 i (by omega), show w32 (8 + (i : Int)) = ((8 + i : Nat) : Int) from w_ix (c := 8) (by omega), if_pos (by omega), if_pos (by omega), if_pos (by omega), bq_117a_61, w32_s1 (by omega)]
    simp only [tn_nat, uu, re, rr]
    rw [upn (show ¬ 8 + i = i by omega), hR]
    have a1 : hrA T (σ 50) i i = σ 50 i := by
      unfold hrA
      rw [if_neg (by omega), if_neg (by omega)]
    have a2 : hrA T (σ 50) i (8 + i) = σ 50 (8 + i) := by
      unfold hrA
      rw [if_neg (by omega), if_neg (by omega)]
    rw [a1, a2, w32_id (x := σ 50 i - T 15 i) (by omega) (by omega), w32_id (x := σ 50 (8 + i) - 1) (by omega) (by omega)]
    have c1 : (if 0 < σ 50 i - T 15 i then σ 50 i - T 15 i else 0) = if σ 50 i ≤ T 15 i then 0 else σ 50 i - T 15 i := by
      by_cases z : σ 50 i ≤ T 15 i
      · rw [if_pos z, if_neg (by omega)]
      · rw [if_neg z, if_pos (by omega)]
    have c2 : (if 0 < σ 50 (8 + i) - 1 then σ 50 (8 + i) - 1 else 0) = if σ 50 (8 + i) ≤ 0 then 0 else σ 50 (8 + i) - 1 := by
      by_cases z : σ 50 (8 + i) ≤ 0
      · rw [if_pos z, if_neg (by omega)]
      · rw [if_neg z]
        by_cases y : 0 < σ 50 (8 + i) - 1
        · rw [if_pos y]
        · rw [if_neg y]
          omega
    rw [c1, c2]) (nM T) 0 (σ 50) (by omega) (hrA_0 T _).symm
  have q44 : hrA T (σ 50) (nM T) 44 = σ 50 44 := by
    unfold hrA
    rw [if_neg (by omega), if_neg (by omega)]
  have q45 : hrA T (σ 50) (nM T) 45 = σ 50 45 := by
    unfold hrA
    rw [if_neg (by omega), if_neg (by omega)]
  have e1 : vv X 117 0 [some (vP 49), some (vP 7), none] [] σ = vv X 117 2 [some (vP 49), some (vP 7), some (vI (nM T : Int))] [] (am_row σ 50 (hrA T (σ 50) (nM T))) := by
    rw [bq_117a_0, ← hR]
    have := e
    rw [r0] at this
    exact this
  rw [bq_117a_2, g_men, bsome] at e1
  dsimp +instances only at e1
  rw [rn _ (show ¬ (8 : Nat) = 50 by decide), tl_at hT (k := 8) (by omega), H.m0, if_pos (Int.le_refl _), re, q44, w32_id (x := σ 50 44 + 1) (by omega) (by omega)] at e1
  by_cases z : σ 50 44 < 23
  · rw [if_pos (by omega), bq_117a_133, ur] at e1
    refine ⟨_, vV_of e1 rfl, Fr.rf.row rfl (by decide), ?_⟩
    rw [re]
    exact hrS_of H s44.2 (fun _ => rfl) (fun y => absurd z y)
  · rw [if_neg (by omega), bq_117a_98] at e1
    simp only [uu, re, rr] at e1
    rw [show (24 : Int) = ((24 : Nat) : Int) from rfl, show (32 : Int) = ((32 : Nat) : Int) from rfl, show (42 : Int) = ((42 : Nat) : Int) from rfl, show (44 : Int) = ((44 : Nat) : Int) from rfl, fr_50 (by omega) (by omega), bsome, fr_50 (by omega) (by omega), bsome, bq_117a_133] at e1
    simp only [re, rr] at e1
    refine ⟨_, vV_of e1 rfl, Fr.rf.row rfl (by decide), ?_⟩
    rw [re]
    refine hrS_of H s44.2 (fun y => absurd y z) (fun _ j hj => ?_)
    simp only [upa]
    by_cases c1 : j = 44
    · subst c1
      simp
    · by_cases c2 : j = 45
      · subst c2
        simp [q45]
      · simp only [c1, c2, if_false]
        by_cases c3 : 42 ≤ j ∧ j < 44
        · rw [if_pos c3, if_pos (show (24 ≤ j ∧ j < 32) ∨ j = 42 ∨ j = 43 by omega)]
        · rw [if_neg c3]
          by_cases c4 : 24 ≤ j ∧ j < 32
          · rw [if_pos c4, if_pos (show (24 ≤ j ∧ j < 32) ∨ j = 42 ∨ j = 43 by omega)]
          · rw [if_neg c4, if_neg (show ¬ ((24 ≤ j ∧ j < 32) ∨ j = 42 ∨ j = 43) by omega)]
theorem c_begin_49 (H : TOk T) (hT : tl σ = T) : ∃ σ', vcV X 88 [vP 49, vP 7] σ = some σ' ∧ Fr [50] [] σ σ' ∧ rs (σ' 50) = bgS T := by
  have h8 := H.m8
  have h4 := H.d4
  have e : vcV X 88 [vP 49, vP 7] σ = some (am_row σ 50 (am_cp (T 12) (am_cp (T 14) (fun j => if j < 46 then 0 else σ 50 j) 0 0 (nM T)) 0 32 (nD T))) := vV_of ((bq_88a_0 X σ).trans (by
    rw [fl_50, bsome, g_men, bsome]
    dsimp +instances only
    rw [rn _ (show ¬ (8 : Nat) = 50 by decide), tl_at hT (k := 8) (by omega), H.m0, if_pos (by omega), g_dishes, bsome]
    dsimp +instances only
    rw [rn _ (show ¬ (8 : Nat) = 50 by decide), rn _ (show ¬ (8 : Nat) = 50 by decide), tl_at hT (k := 8) (by omega), H.d0, if_pos (by omega)]
    simp only [re, rr, tn_nat, rn _ (show ¬ (14 : Nat) = 50 by decide), rn _ (show ¬ (12 : Nat) = 50 by decide)]
    rw [tl_at hT (k := 14) (by omega), tl_at hT (k := 12) (by omega)])) rfl
  refine ⟨_, e, Fr.rf.row rfl (by decide), ?_⟩
  rw [re]
  funext j
  unfold bgS
  by_cases hj : j < 46
  · rw [rs_in hj]
    unfold am_cp
    by_cases c1 : j < nM T
    · rw [if_neg (by omega), if_pos (by omega), if_pos c1]
      first | rfl | (congr 1; omega)
    · rw [if_neg c1]
      by_cases c2 : 32 ≤ j ∧ j < 32 + nD T
      · rw [if_pos c2, if_pos c2]
        first | rfl | (congr 1; omega)
      · rw [if_neg c2, if_neg c2, if_neg (by omega)]
        exact if_pos hj
  · rw [rs_hi hj, if_neg (by omega), if_neg (by omega)]
theorem c_hour_51 (H : TOk T) (hT : tl σ = T) (S : ScOk T (rs (σ 52))) : ∃ σ', vcV X 117 [vP 51, vP 7] σ = some σ' ∧ Fr [52] [] σ σ' ∧ rs (σ' 52) = hrS T (rs (σ 52)) := by
  have h8 := H.m8
  have s44 := S.2.2.1
  rw [rs_in (by omega)] at s44
  obtain ⟨R, e, hR⟩ := lp (fun i (R : Nat → Int) => vv X 117 2 [some (vP 51), some (vP 7), some (vI (i : Int))] [] (am_row σ 52 R)) (nM T) (fun i R => R = hrA T (σ 52) i) (fun i R hi hR => by
    refine ⟨_, ?_, (hrA_s (T := T) (r := σ 52) (show i < 8 by omega)).symm.symm⟩
    show vv X 117 2 [some (vP 51), some (vP 7), some (vI (i : Int))] [] (am_row σ 52 R) = vv X 117 2 [some (vP 51), some (vP 7), some (vI ((i + 1 : Nat) : Int))] [] _
    have b0 := S.1 i hi
    rw [rs_in (show i < 46 by omega), rs_in (show 8 + i < 46 by omega)] at b0
    have hM := H.mi i hi
    rw [bq_117b_2, g_men, bsome]
    dsimp +instances only
    simp only [rn _ (show ¬ (8 : Nat) = 52 by decide), rn _ (show ¬ (15 : Nat) = 52 by decide)]
    rw [tl_at hT (k := 8) (by omega), tl_at hT (k := 15) (by omega), H.m0, if_neg (by omega), w_ix0 i (by omega), show w32 (8 + (i : Int)) = ((8 + i : Nat) : Int) from w_ix (c := 8) (by omega), if_pos (by omega), if_pos (by omega), if_pos (by omega), bq_117b_61, w32_s1 (by omega)]
    simp only [tn_nat, uu, re, rr]
    rw [upn (show ¬ 8 + i = i by omega), hR]
    have a1 : hrA T (σ 52) i i = σ 52 i := by
      unfold hrA
      rw [if_neg (by omega), if_neg (by omega)]
    have a2 : hrA T (σ 52) i (8 + i) = σ 52 (8 + i) := by
      unfold hrA
      rw [if_neg (by omega), if_neg (by omega)]
    rw [a1, a2, w32_id (x := σ 52 i - T 15 i) (by omega) (by omega), w32_id (x := σ 52 (8 + i) - 1) (by omega) (by omega)]
    have c1 : (if 0 < σ 52 i - T 15 i then σ 52 i - T 15 i else 0) = if σ 52 i ≤ T 15 i then 0 else σ 52 i - T 15 i := by
      by_cases z : σ 52 i ≤ T 15 i
      · rw [if_pos z, if_neg (by omega)]
      · rw [if_neg z, if_pos (by omega)]
    have c2 : (if 0 < σ 52 (8 + i) - 1 then σ 52 (8 + i) - 1 else 0) = if σ 52 (8 + i) ≤ 0 then 0 else σ 52 (8 + i) - 1 := by
      by_cases z : σ 52 (8 + i) ≤ 0
      · rw [if_pos z, if_neg (by omega)]
      · rw [if_neg z]
        by_cases y : 0 < σ 52 (8 + i) - 1
        · rw [if_pos y]
        · rw [if_neg y]
          omega
    rw [c1, c2]) (nM T) 0 (σ 52) (by omega) (hrA_0 T _).symm
  have q44 : hrA T (σ 52) (nM T) 44 = σ 52 44 := by
    unfold hrA
    rw [if_neg (by omega), if_neg (by omega)]
  have q45 : hrA T (σ 52) (nM T) 45 = σ 52 45 := by
    unfold hrA
    rw [if_neg (by omega), if_neg (by omega)]
  have e1 : vv X 117 0 [some (vP 51), some (vP 7), none] [] σ = vv X 117 2 [some (vP 51), some (vP 7), some (vI (nM T : Int))] [] (am_row σ 52 (hrA T (σ 52) (nM T))) := by
    rw [bq_117b_0, ← hR]
    have := e
    rw [r0] at this
    exact this
  rw [bq_117b_2, g_men, bsome] at e1
  dsimp +instances only at e1
  rw [rn _ (show ¬ (8 : Nat) = 52 by decide), tl_at hT (k := 8) (by omega), H.m0, if_pos (Int.le_refl _), re, q44, w32_id (x := σ 52 44 + 1) (by omega) (by omega)] at e1
  by_cases z : σ 52 44 < 23
  · rw [if_pos (by omega), bq_117b_133, ur] at e1
    refine ⟨_, vV_of e1 rfl, Fr.rf.row rfl (by decide), ?_⟩
    rw [re]
    exact hrS_of H s44.2 (fun _ => rfl) (fun y => absurd z y)
  · rw [if_neg (by omega), bq_117b_98] at e1
    simp only [uu, re, rr] at e1
    rw [show (24 : Int) = ((24 : Nat) : Int) from rfl, show (32 : Int) = ((32 : Nat) : Int) from rfl, show (42 : Int) = ((42 : Nat) : Int) from rfl, show (44 : Int) = ((44 : Nat) : Int) from rfl, fr_52 (by omega) (by omega), bsome, fr_52 (by omega) (by omega), bsome, bq_117b_133] at e1
    simp only [re, rr] at e1
    refine ⟨_, vV_of e1 rfl, Fr.rf.row rfl (by decide), ?_⟩
    rw [re]
    refine hrS_of H s44.2 (fun y => absurd y z) (fun _ j hj => ?_)
    simp only [upa]
    by_cases c1 : j = 44
    · subst c1
      simp
    · by_cases c2 : j = 45
      · subst c2
        simp [q45]
      · simp only [c1, c2, if_false]
        by_cases c3 : 42 ≤ j ∧ j < 44
        · rw [if_pos c3, if_pos (show (24 ≤ j ∧ j < 32) ∨ j = 42 ∨ j = 43 by omega)]
        · rw [if_neg c3]
          by_cases c4 : 24 ≤ j ∧ j < 32
          · rw [if_pos c4, if_pos (show (24 ≤ j ∧ j < 32) ∨ j = 42 ∨ j = 43 by omega)]
          · rw [if_neg c4, if_neg (show ¬ ((24 ≤ j ∧ j < 32) ∨ j = 42 ∨ j = 43) by omega)]
theorem c_begin_51 (H : TOk T) (hT : tl σ = T) : ∃ σ', vcV X 88 [vP 51, vP 7] σ = some σ' ∧ Fr [52] [] σ σ' ∧ rs (σ' 52) = bgS T := by
  have h8 := H.m8
  have h4 := H.d4
  have e : vcV X 88 [vP 51, vP 7] σ = some (am_row σ 52 (am_cp (T 12) (am_cp (T 14) (fun j => if j < 46 then 0 else σ 52 j) 0 0 (nM T)) 0 32 (nD T))) := vV_of ((bq_88b_0 X σ).trans (by
    rw [fl_52, bsome, g_men, bsome]
    dsimp +instances only
    rw [rn _ (show ¬ (8 : Nat) = 52 by decide), tl_at hT (k := 8) (by omega), H.m0, if_pos (by omega), g_dishes, bsome]
    dsimp +instances only
    rw [rn _ (show ¬ (8 : Nat) = 52 by decide), rn _ (show ¬ (8 : Nat) = 52 by decide), tl_at hT (k := 8) (by omega), H.d0, if_pos (by omega)]
    simp only [re, rr, tn_nat, rn _ (show ¬ (14 : Nat) = 52 by decide), rn _ (show ¬ (12 : Nat) = 52 by decide)]
    rw [tl_at hT (k := 14) (by omega), tl_at hT (k := 12) (by omega)])) rfl
  refine ⟨_, e, Fr.rf.row rfl (by decide), ?_⟩
  rw [re]
  funext j
  unfold bgS
  by_cases hj : j < 46
  · rw [rs_in hj]
    unfold am_cp
    by_cases c1 : j < nM T
    · rw [if_neg (by omega), if_pos (by omega), if_pos c1]
      first | rfl | (congr 1; omega)
    · rw [if_neg c1]
      by_cases c2 : 32 ≤ j ∧ j < 32 + nD T
      · rw [if_pos c2, if_pos c2]
        first | rfl | (congr 1; omega)
      · rw [if_neg c2, if_neg c2, if_neg (by omega)]
        exact if_pos hj
  · rw [rs_hi hj, if_neg (by omega), if_neg (by omega)]
theorem c_trial : ∃ σ', vcV X 207 [vP 51, vP 49] σ = some σ' ∧ Fr [52] [] σ σ' ∧ rs (σ' 52) = rs (σ 50) := by
  refine ⟨_, vV_of (bq_207_0 X σ) rfl, Fr.rf.row rfl (by decide), ?_⟩
  rw [re]
  refine rs_ext fun j hj => ?_
  unfold am_cp
  rw [if_pos (by omega)]
  first | rfl | (congr 1; omega)
end CSW
