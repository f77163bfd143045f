/-! TOKENS: signs, one token -/
section SG0
variable {X : Nat} {σ : am_Sg}
theorem mem_sb {c : Int} : c ∈ am_sb ↔ ∃ j : Nat, j < 9 ∧ am_sb.getD j 0 = c := by
  constructor
  · intro h
    unfold am_sb at h
    simp only [List.mem_cons, List.not_mem_nil, or_false] at h
    rcases h with h | h | h | h | h | h | h | h | h
    · exact ⟨0, by omega, h.symm⟩
    · exact ⟨1, by omega, h.symm⟩
    · exact ⟨2, by omega, h.symm⟩
    · exact ⟨3, by omega, h.symm⟩
    · exact ⟨4, by omega, h.symm⟩
    · exact ⟨5, by omega, h.symm⟩
    · exact ⟨6, by omega, h.symm⟩
    · exact ⟨7, by omega, h.symm⟩
    · exact ⟨8, by omega, h.symm⟩
  · rintro ⟨j, hj, e⟩
    have : ∀ j : Fin 9, am_sb.getD j.val 0 ∈ am_sb := by decide +kernel
    rw [← e]
    exact this ⟨j, hj⟩
theorem c_idxL {c x3 : Int} (h3 : x3 = 9) (hB : ∀ j, σ 1005 j = am_sb.getD j 0) : ∀ (m w : Nat), w + m = 9 → (∀ u, u < w → ¬ am_sb.getD u 0 = c) → ∃ k, vv X 291 7 [some (vP 1005), none, none, some (vI x3), some (vI c), some (vI (w : Int))] [] σ = some (some (vI k), σ) ∧ ((0 ≤ k ∧ c ∈ am_sb) ∨ (k = -1 ∧ ¬ c ∈ am_sb))
  | 0, w, e, h => ⟨-1, by rw [bq_291_7, if_pos (by omega)], Or.inr ⟨rfl, fun q => by
      obtain ⟨j, hj, q⟩ := mem_sb.mp q
      exact h j (by omega) q⟩⟩
  | m + 1, w, e, h => by
    by_cases z : am_sb.getD w 0 = c
    · refine ⟨(w : Int), ?_, Or.inl ⟨by omega, mem_sb.mpr ⟨w, by omega, z⟩⟩⟩
      rw [bq_291_7, if_neg (by omega), if_pos (by omega), tn_nat, hB w, if_neg (fun q => q z)]
    · obtain ⟨k, e1, h1⟩ := c_idxL h3 hB m (w + 1) (by omega) (fun u hu => by
        by_cases y : u = w
        · rw [y]; exact z
        · exact h u (by omega))
      refine ⟨k, ?_, h1⟩
      rw [bq_291_7, if_neg (by omega), if_pos (by omega), tn_nat, hB w, if_pos z, w32_s1 (by omega)]
      exact e1
theorem c_signs {c : Int} (hc : 0 < c ∧ c < 128) (hB : ∀ j, σ 1005 j = am_sb.getD j 0) (h0 : σ 1003 1 = 0) : ∃ k, vcI X 269 [vP 1003, vI (am_i2c c)] σ = some (k, σ) ∧ ((0 ≤ k ∧ c ∈ am_sb) ∨ (k = -1 ∧ ¬ c ∈ am_sb)) := by
  have ic : am_i2c c = c := by unfold am_i2c; omega
  have ib : am_i2b c = c := by unfold am_i2b; omega
  obtain ⟨k, e, h⟩ := c_idxL (X := X) (c := c) (x3 := 9) rfl hB 9 0 (by omega) (fun u hu => absurd hu (Nat.not_lt_zero _))
  have e291 : vcI X 291 [vP 1005, vI c, vI 0, vI 9] σ = some (k, σ) := vI_of ((bq_291_0 X _ _ _ σ).trans (by rw [ib]; exact e)) rfl
  have e290 : vcI X 290 [vI c] σ = some (1, σ) := vI_of ((bq_290_0 X _ σ).trans (by rw [if_neg (by omega), if_neg (by omega), bq_290_16, if_pos okZ1])) rfl
  have e289 : vcI X 289 [vP 1005, vI c, vI 0, vI 9] σ = some (k, σ) := by
    refine vI_of ((bq_289_0 X _ _ _ σ).trans ?_) rfl
    rw [e290, bsome]
    dsimp +instances only
    rw [if_pos i10, if_neg (show ¬ (0 : Int) < 0 by omega), if_neg (show ¬ (9 : Int) < 9 by omega), if_pos (by omega), e291, bsome]
  have e225 : vcI X 225 [vP 1003] σ = some (0, σ) := vI_of ((bq_225_0 X σ).trans (by rw [h0, bq_225_14, if_pos (by decide)])) rfl
  have e169 : vcI X 169 [vP 1003] σ = some (9, σ) := by
    refine vI_of ((bq_169_0 X σ).trans ?_) rfl
    rw [e225, bsome]
    dsimp +instances only
    rw [show am_shr 9 0 = 9 by decide +kernel]
  have e226 : vcI X 226 [vP 1003] σ = some (1, σ) := vI_of ((bq_226_0 X σ).trans (by rw [h0, if_neg (by decide), bq_226_18, if_pos okZ1])) rfl
  refine ⟨k, ?_, h⟩
  refine vI_of ((bq_269_0 X _ σ).trans ?_) rfl
  have e284 : vcI X 284 [vP 1003, vI c, vI 0] σ = some (k, σ) := by
    refine vI_of ((bq_284_0 X _ _ σ).trans ?_) rfl
    rw [e226, bsome]
    dsimp +instances only
    rw [if_neg i10, e169, bsome]
    dsimp +instances only
    rw [e289, bsome]
    dsimp +instances only
    rw [bq_284_36]
  rw [ic, e284, bsome]
theorem sb_pos : ∀ c ∈ am_sb, 0 < c ∧ c < 128 := by decide +kernel
theorem c_token {n i t : Nat} (hn : n ≤ 2000) (h5 : σ 1 5 = (n : Int)) (h6 : σ 1 6 = (i : Int)) (hi : i < n) (ht : t < 401) (hW : ∀ w, w < 19 → σ 3 w = wdC.getD w 0) (hB : ∀ j, σ 1005 j = am_sb.getD j 0) (h0 : σ 1003 1 = 0) (hr : -128 ≤ σ 2 i ∧ σ 2 i < 128) : ∃ k v e, vcI X 229 [vP 1, vI (t : Int)] σ = some (k, af σ t e v) ∧ KC (σ 2) n i k v e := by
  have head : vv X 229 0 [some (vP 1), some (vI (t : Int)), none] [] σ = (vcI X 265 [vI (σ 2 i)] σ).bind fun q1 => if q1.1 = 0 then if 0 ≤ (q1.2 1 6) ∧ (q1.2 1 6) < 2000 then (vcI X 267 [vI (q1.2 2 (q1.2 1 6).toNat)] q1.2).bind fun q2 => if q2.1 = 0 then if 0 ≤ (q2.2 1 6) ∧ (q2.2 1 6) < 2000 then if (q2.2 2 (q2.2 1 6).toNat) ≤ 0 then vv X 229 93 [none, none, none] [] (am_upd q2.2 1 6 (w32 ((q2.2 1 6) + 1))) else (vcI X 269 [vP 1003, vI (am_i2c (q2.2 2 (q2.2 1 6).toNat))] (am_upd q2.2 1 6 (w32 ((q2.2 1 6) + 1)))).bind fun q3 => if q3.1 < 0 then vv X 229 93 [none, none, none] [] q3.2 else vv X 229 94 [none, none, none] [vI (q2.2 2 (q2.2 1 6).toNat)] q3.2 else none else (vcI X 268 [vP 1, vI (t : Int)] q2.2).bind fun q4 => some (some (vI q4.1), q4.2) else none else (vcI X 266 [vP 1, vI (t : Int)] q1.2).bind fun q5 => some (some (vI q5.1), q5.2) := by
    rw [bq_229_0, if_pos (show σ 1 6 < σ 1 5 by omega), if_pos (show 0 ≤ σ 1 6 ∧ σ 1 6 < 2000 by omega), show (σ 1 6).toNat = i by omega]
  by_cases hl : isLe (σ 2 i)
  · obtain ⟨k, v, e, e1, h1⟩ := c_letters (X := X) hn h5 h6 hi ht hW hl
    refine ⟨k, v, e, vI_of (head.trans ?_) rfl, h1⟩
    rw [c_letter, bsome]
    dsimp +instances only
    rw [if_pos hl, if_neg i10, e1, bsome]
  · have h2 : vv X 229 0 [some (vP 1), some (vI (t : Int)), none] [] σ = (vcI X 267 [vI (σ 2 i)] σ).bind fun q2 => if q2.1 = 0 then if 0 ≤ (q2.2 1 6) ∧ (q2.2 1 6) < 2000 then if (q2.2 2 (q2.2 1 6).toNat) ≤ 0 then vv X 229 93 [none, none, none] [] (am_upd q2.2 1 6 (w32 ((q2.2 1 6) + 1))) else (vcI X 269 [vP 1003, vI (am_i2c (q2.2 2 (q2.2 1 6).toNat))] (am_upd q2.2 1 6 (w32 ((q2.2 1 6) + 1)))).bind fun q3 => if q3.1 < 0 then vv X 229 93 [none, none, none] [] q3.2 else vv X 229 94 [none, none, none] [vI (q2.2 2 (q2.2 1 6).toNat)] q3.2 else none else (vcI X 268 [vP 1, vI (t : Int)] q2.2).bind fun q4 => some (some (vI q4.1), q4.2) := by
      rw [head, c_letter, bsome]
      dsimp +instances only
      rw [if_neg hl, if_pos rfl, if_pos (show 0 ≤ σ 1 6 ∧ σ 1 6 < 2000 by omega), show (σ 1 6).toNat = i by omega]
    by_cases hd : isDi (σ 2 i)
    · obtain ⟨k, v, e, e1, h1⟩ := c_digits (X := X) hn h5 h6 hi ht hl hd
      refine ⟨k, v, e, vI_of (h2.trans ?_) rfl, h1⟩
      rw [c_digit, bsome]
      dsimp +instances only
      rw [if_pos hd, if_neg i10, e1, bsome]
    · have af0 : af σ t (i + 1) (σ 6 t) = am_upd σ 1 6 ((i + 1 : Nat) : Int) := by
        unfold af
        exact us (by rw [un _ (show ¬ (6 : Nat) = 1 by decide)])
      have h3 : vv X 229 0 [some (vP 1), some (vI (t : Int)), none] [] σ = if σ 2 i ≤ 0 then vv X 229 93 [none, none, none] [] (af σ t (i + 1) (σ 6 t)) else (vcI X 269 [vP 1003, vI (am_i2c (σ 2 i))] (af σ t (i + 1) (σ 6 t))).bind fun q3 => if q3.1 < 0 then vv X 229 93 [none, none, none] [] q3.2 else vv X 229 94 [none, none, none] [vI (σ 2 i)] q3.2 := by
        rw [h2, c_digit, bsome]
        dsimp +instances only
        rw [if_neg hd, if_pos rfl, if_pos (show 0 ≤ σ 1 6 ∧ σ 1 6 < 2000 by omega), show (σ 1 6).toNat = i by omega, h6, w32_s1 (by omega), af0]
      by_cases p : σ 2 i ≤ 0
      · refine ⟨1, σ 6 t, i + 1, vI_of (h3.trans ?_) rfl, Or.inr (Or.inr ⟨hl, hd, rfl, Or.inr ⟨fun q => ?_, rfl⟩⟩)⟩
        · rw [if_pos p, bq_229_93, bq_229_94]
        · have := (sb_pos _ q).1
          omega
      · obtain ⟨k, ek, hk⟩ := c_signs (X := X) (σ := af σ t (i + 1) (σ 6 t)) (c := σ 2 i) (by omega) (fun j => by
          rw [af0, un _ (show ¬ (1005 : Nat) = 1 by decide)]
          exact hB j) (by rw [af0, un _ (show ¬ (1003 : Nat) = 1 by decide)]; exact h0)
        rcases hk with ⟨k1, k2⟩ | ⟨k1, k2⟩
        · refine ⟨σ 2 i, σ 6 t, i + 1, vI_of (h3.trans ?_) rfl, Or.inr (Or.inr ⟨hl, hd, rfl, Or.inl ⟨k2, rfl⟩⟩)⟩
          rw [if_neg p, ek, bsome]
          dsimp +instances only
          rw [if_neg (by omega), bq_229_94]
        · refine ⟨1, σ 6 t, i + 1, vI_of (h3.trans ?_) rfl, Or.inr (Or.inr ⟨hl, hd, rfl, Or.inr ⟨k2, rfl⟩⟩)⟩
          rw [if_neg p, ek, bsome]
          dsimp +instances only
          rw [if_pos (by omega), bq_229_93, bq_229_94]
end SG0
