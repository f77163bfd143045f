/-! TOKENS: one token of the class -/
section ST
variable {X : Nat} {σ : am_Sg}
/-- what the class makes of what stands at i: kind, value, end -/
def KC (B : Nat → Int) (n i : Nat) (k v : Int) (e : Nat) : Prop := (isLe (B i) ∧ Run isLe B n i e ∧ ((8 < e - i ∧ k = 1) ∨ (e - i ≤ 8 ∧ v = ((fr 32 (sq B i (e - i)) : Nat) : Int) ∧ ((∃ w : Nat, w < 19 ∧ k = ((256 + w : Nat) : Int) ∧ wdC.getD w 0 = v) ∨ (k = 2 ∧ ∀ w : Nat, w < 19 → ¬ wdC.getD w 0 = v))))) ∨ (¬ isLe (B i) ∧ isDi (B i) ∧ Run isDi B n i e ∧ ((4 < e - i ∧ k = 1) ∨ (e - i ≤ 4 ∧ k = 3 ∧ v = dn B i (e - i)))) ∨ (¬ isLe (B i) ∧ ¬ isDi (B i) ∧ e = i + 1 ∧ ((B i ∈ am_sb ∧ k = B i) ∨ (¬ B i ∈ am_sb ∧ k = 1)))
theorem lcmp_iff {x y : Int} : am_lcmp x y = 0 ↔ x = y := by
  unfold am_lcmp
  by_cases h : x < y
  · rw [if_pos h]
    exact ⟨fun q => absurd q (by decide), fun q => by omega⟩
  · rw [if_neg h]
    by_cases e : x = y
    · rw [if_pos e]
      exact ⟨fun _ => e, fun _ => rfl⟩
    · rw [if_neg e]
      exact ⟨fun q => absurd q (by decide), fun q => absurd q e⟩
theorem c_wordL {y3 : Int} (hW : ∀ w, w < 19 → σ 3 w = wdC.getD w 0) : ∀ (m w : Nat), w + m = 19 → (∀ u, u < w → ¬ wdC.getD u 0 = y3) → ∃ k, vv X 266 83 [some (vP 1), none, none, some (vJ y3), none, some (vI (w : Int))] [] σ = some (some (vI k), σ) ∧ ((∃ w : Nat, w < 19 ∧ k = ((256 + w : Nat) : Int) ∧ wdC.getD w 0 = y3) ∨ (k = 2 ∧ ∀ w : Nat, w < 19 → ¬ wdC.getD w 0 = y3))
  | 0, w, e, h => ⟨2, by rw [bq_266_83, if_pos (by omega)], Or.inr ⟨rfl, fun u hu => h u (by omega)⟩⟩
  | m + 1, w, e, h => by
    by_cases z : wdC.getD w 0 = y3
    · refine ⟨((256 + w : Nat) : Int), ?_, Or.inl ⟨w, by omega, rfl, z⟩⟩
      rw [bq_266_83, if_neg (by omega), if_pos (by omega), tn_nat, hW w (by omega), if_neg (fun q => q (lcmp_iff.mpr z)), w32_id (by omega) (by omega)]
      rfl
    · obtain ⟨k, e1, h1⟩ := c_wordL hW m (w + 1) (by omega) (fun u hu => by
        by_cases y : u = w
        · rw [y]; exact z
        · exact h u (by omega))
      refine ⟨k, ?_, h1⟩
      rw [bq_266_83, if_neg (by omega), if_pos (by omega), tn_nat, hW w (by omega), if_pos (fun q => z (lcmp_iff.mp q)), w32_s1 (by omega)]
      exact e1
/-- the state behind a token: at and one value -/
def af (σ : am_Sg) (t e : Nat) (v : Int) : am_Sg := am_upd (am_upd σ 1 6 (e : Int)) 6 t v
theorem c_letters {n i t : Nat} (hn : n ≤ 2000) (h5 : σ 1 5 = (n : Int)) (h6 : σ 1 6 = (i : Int)) (hi : i < n) (ht : t < 401) (hW : ∀ w, w < 19 → σ 3 w = wdC.getD w 0) (hl : isLe (σ 2 i)) : ∃ k v e, vcI X 266 [vP 1, vI (t : Int)] σ = some (k, af σ t e v) ∧ KC (σ 2) n i k v e := by
  obtain ⟨e, v, e1, hr, hv⟩ := c_letL (X := X) (t := (t : Int)) (i := i) hn (n - i) 0 0 σ (by omega) h5 (by rw [h6]; rfl) (fun j hj => absurd hj (Nat.not_lt_zero _)) (fun _ => rfl)
  have le := hr.le (by omega)
  have he := hr.1
  have hd : vv X 266 0 [some (vP 1), some (vI (t : Int)), none, none, none, none] [] σ = if w32 ((e : Int) - (i : Int)) ≤ 8 then vv X 266 83 [some (vP 1), none, none, some (vJ v), none, some (vI 0)] [] (af σ t e v) else some (some (vI 1), af σ t e v) := by
    rw [bq_266_0, h6, e1, bq_266_60, if_pos (by omega), tn_nat, ue, upa, if_pos rfl]
    rfl
  by_cases z : e - i ≤ 8
  · obtain ⟨k, e2, h2⟩ := c_wordL (X := X) (σ := af σ t e v) (y3 := v) (fun w hw => by
      unfold af
      rw [un _ (show ¬ (3 : Nat) = 6 by decide), un _ (show ¬ (3 : Nat) = 1 by decide)]
      exact hW w hw) 19 0 (by omega) (fun u hu => absurd hu (Nat.not_lt_zero _))
    refine ⟨k, v, e, vI_of (hd.trans ?_) rfl, Or.inl ⟨hl, hr, Or.inr ⟨z, hv z, h2⟩⟩⟩
    rw [if_pos (by rw [w32_id (by omega) (by omega)]; omega)]
    exact e2
  · refine ⟨1, v, e, vI_of (hd.trans ?_) rfl, Or.inl ⟨hl, hr, Or.inl ⟨by omega, rfl⟩⟩⟩
    rw [if_neg (by rw [w32_id (by omega) (by omega)]; omega)]
theorem c_digits {n i t : Nat} (hn : n ≤ 2000) (h5 : σ 1 5 = (n : Int)) (h6 : σ 1 6 = (i : Int)) (hi : i < n) (ht : t < 401) (hl : ¬ isLe (σ 2 i)) (hd : isDi (σ 2 i)) : ∃ k v e, vcI X 268 [vP 1, vI (t : Int)] σ = some (k, af σ t e v) ∧ KC (σ 2) n i k v e := by
  obtain ⟨e, v, e1, hr, hv⟩ := c_digL (X := X) (t := (t : Int)) (i := i) hn (n - i) 0 0 σ (by omega) h5 (by rw [h6]; rfl) (fun j hj => absurd hj (Nat.not_lt_zero _)) (fun _ => rfl)
  have le := hr.le (by omega)
  have he := hr.1
  have hh : vv X 268 0 [some (vP 1), some (vI (t : Int)), none, none] [] σ = if w32 ((e : Int) - (i : Int)) ≤ 4 then vv X 268 87 [none, none, none, none] [vI 3] (af σ t e v) else vv X 268 87 [none, none, none, none] [vI 1] (af σ t e v) := by
    rw [bq_268_0, h6, e1, bq_268_64, if_pos (by omega), tn_nat, ue, upa, if_pos rfl]
    rfl
  by_cases z : e - i ≤ 4
  · refine ⟨3, v, e, vI_of (hh.trans ?_) rfl, Or.inr (Or.inl ⟨hl, hd, hr, Or.inr ⟨z, rfl, hv z⟩⟩)⟩
    rw [if_pos (by rw [w32_id (by omega) (by omega)]; omega), bq_268_87]
  · refine ⟨1, v, e, vI_of (hh.trans ?_) rfl, Or.inr (Or.inl ⟨hl, hd, hr, Or.inl ⟨by omega, rfl⟩⟩)⟩
    rw [if_neg (by rw [w32_id (by omega) (by omega)]; omega), bq_268_87]
end ST
