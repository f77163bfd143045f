/-! READ: a man -/
section PJ
variable {X N : Nat} {σ τ σ' τ' : am_Sg} {t sd : Nat}
theorem b10_f : ∀ h : Fin 24, bt1 0 h.val = 0 := by decide +kernel
theorem ini_ix {K d : Nat} (hK : K < 16) (hd : d < 4) : w32 (w32 (4 * (K : Int)) + (d : Int)) = ((4 * K + d : Nat) : Int) ∧ (0 : Int) ≤ ((4 * K + d : Nat) : Int) ∧ ((4 * K + d : Nat) : Int) < 64 := by
  rw [w32_id (x := 4 * (K : Int)) (by omega) (by omega), w32_id (by omega) (by omega)]
  omega
theorem m_ini (X : Nat) {K : Nat} {tok : Int} (hK : K < 16) : ∀ (n d : Nat) (τ : am_Sg), d + n = 4 → ∃ τ', vv X 192 114 [some (vP 80), some (vI (K : Int)), some (vI tok), some (vI (d : Int))] [] τ = vv X 192 148 [some (vP 80), some (vI (K : Int)), some (vI tok), none] [] τ' ∧ Fr [102, 103] [] τ τ' ∧ (∀ i, d ≤ i → i < 4 → τ' 102 (4 * K + i) = 0 ∧ τ' 103 (4 * K + i) = 99) ∧ (∀ j, ¬ (4 * K + d ≤ j ∧ j < 4 * K + 4) → τ' 102 j = τ 102 j ∧ τ' 103 j = τ 103 j)
  | 0, d, τ, e => ⟨τ, by rw [bq_192_114, if_pos (by omega)], Fr.rf, fun i _ _ => by omega, fun _ _ => ⟨rfl, rfl⟩⟩
  | n + 1, d, τ, e => by
    obtain ⟨k1, k2⟩ := ini_ix (K := K) (d := d) hK (by omega)
    obtain ⟨τ', q1, q2, q3, q4⟩ := m_ini X (tok := tok) hK n (d + 1) (am_upd (am_upd τ 102 (4 * K + d) 0) 103 (4 * K + d) 99) (by omega)
    refine ⟨τ', ?_, ((Fr.rf.upd rfl (by decide)).upd rfl (by decide)).tr q2, fun i a b => ?_, fun j hj => ?_⟩
    · rw [bq_192_114, if_neg (by omega), k1, if_pos ⟨k2.1, k2.2, rfl⟩, if_pos k2, tn_nat, bq_192_142, w32_s1 (by omega)]
      exact q1
    · by_cases w : i = d
      · subst w
        obtain ⟨p1, p2⟩ := q4 (4 * K + i) (by omega)
        rw [p1, p2, un _ (show ¬ (102 : Nat) = 103 by decide), ue, ue, upe, upe]
        exact ⟨rfl, rfl⟩
      · exact q3 i (by omega) b
    · obtain ⟨p1, p2⟩ := q4 j (by omega)
      rw [p1, p2, un _ (show ¬ (102 : Nat) = 103 by decide), ue, ue, upa, upa, if_neg (by omega), if_neg (by omega), un _ (show ¬ (103 : Nat) = 102 by decide)]
      exact ⟨rfl, rfl⟩
theorem c_fill (X : Nat) {e : Nat} (he : e ≤ 32) : ∀ (n i : Nat) (σ : am_Sg), i + n = e → ∃ σ', vv X 206 10 [some (vP 39), none, some (vI (e : Int)), some (vI 0), some (vI (i : Int))] [] σ = some (none, σ') ∧ Fr [39] [] σ σ' ∧ (∀ j, i ≤ j → j < e → σ' 39 j = 0) ∧ (∀ j, ¬ (i ≤ j ∧ j < e) → σ' 39 j = σ 39 j)
  | 0, i, σ, h => ⟨σ, by rw [bq_206a_10, if_pos (by omega)], Fr.rf, fun j _ _ => by omega, fun _ _ => rfl⟩
  | n + 1, i, σ, h => by
    obtain ⟨σ', q1, q2, q3, q4⟩ := c_fill X he n (i + 1) (am_upd σ 39 i 0) (by omega)
    refine ⟨σ', ?_, (Fr.rf.upd rfl (by decide)).tr q2, fun j a b => ?_, fun j hj => ?_⟩
    · rw [bq_206a_10, if_neg (by omega), if_pos (by omega), tn_nat, w32_s1 (by omega)]
      exact q1
    · by_cases w : j = i
      · subst w
        rw [q4 j (by omega), ue, upe]
      · exact q3 j (by omega) b
    · rw [q4 j (by omega), ue, upa, if_neg (by omega)]
theorem c_addMan (X : Nat) {c : Nat} {v a b d e : Int} (hc : c < 8) (h : σ 28 1 = (c : Int)) : ∃ σ', vcI X 235 [vP 27, vJ v, vI a, vI b, vI d, vI e] σ = some ((c : Int), σ') ∧ Fr [28, 29, 33, 34, 35, 36, 37, 38, 39] [] σ σ' ∧ (σ' 28 = up (σ 28) 1 ((c + 1 : Nat) : Int) ∧ σ' 29 = up (σ 29) (4 + c) v) ∧ (σ' 33 = up (σ 33) c a ∧ σ' 34 = up (σ 34) c b ∧ σ' 35 = up (σ 35) c d ∧ σ' 36 = up (σ 36) c e ∧ σ' 37 = up (σ 37) c 0 ∧ σ' 38 = up (σ 38) c 0) ∧ (∀ i, i < 4 → σ' 39 (4 * c + i) = 0) ∧ (∀ j, ¬ (4 * c ≤ j ∧ j < 4 * c + 4) → σ' 39 j = σ 39 j) := by
  have e1 : w32 (4 + (c : Int)) = ((4 + c : Nat) : Int) := by rw [w32_id (by omega) (by omega)]; omega
  have e2 : w32 ((c : Int) * 4) = ((4 * c : Nat) : Int) := by rw [w32_id (by omega) (by omega)]; omega
  have e3 : w32 (((c + 1 : Nat) : Int) * 4) = ((4 * c + 4 : Nat) : Int) := by rw [w32_id (by omega) (by omega)]; omega
  have cr : (0 : Int) ≤ (c : Int) ∧ (c : Int) < 8 := by omega
  generalize hS : am_upd (am_upd (am_upd (am_upd (am_upd (am_upd (am_upd (am_upd σ 28 1 ((c + 1 : Nat) : Int)) 29 (4 + c) v) 33 c a) 34 c b) 35 c d) 36 c e) 37 c 0) 38 c 0 = S
  obtain ⟨σ', q1, q2, q3, q4⟩ := c_fill X (e := 4 * c + 4) (by omega) 4 (4 * c) S (by omega)
  have FS : Fr [28, 29, 33, 34, 35, 36, 37, 38, 39] [] σ S := by
    rw [← hS]
    exact (((((((Fr.rf.upd rfl (by decide)).upd rfl (by decide)).upd rfl (by decide)).upd rfl (by decide)).upd rfl (by decide)).upd rfl (by decide)).upd rfl (by decide)).upd rfl (by decide)
  have s39 : S 39 = σ 39 := by
    rw [← hS, un _ (show ¬ (39 : Nat) = 38 by decide), un _ (show ¬ (39 : Nat) = 37 by decide), un _ (show ¬ (39 : Nat) = 36 by decide), un _ (show ¬ (39 : Nat) = 35 by decide), un _ (show ¬ (39 : Nat) = 34 by decide), un _ (show ¬ (39 : Nat) = 33 by decide), un _ (show ¬ (39 : Nat) = 29 by decide), un _ (show ¬ (39 : Nat) = 28 by decide)]
  refine ⟨σ', vI_of ((bq_235_0 X _ _ _ _ _ σ).trans ?_) rfl, FS.tr (q2.mono rfl rfl), ⟨?_, ?_⟩, ⟨?_, ?_, ?_, ?_, ?_, ?_⟩, fun i hi => q3 (4 * c + i) (by omega) (by omega), fun j hj => by rw [q4 j hj, s39]⟩
  · rw [h, if_pos cr.2, e1, if_pos (by omega), tn_nat, w32_s1 (by omega), bq_235_37, if_pos cr, tn_nat, bq_235_54, if_pos cr, tn_nat, bq_235_72, if_pos cr, tn_nat, bq_235_88, w32_s1 (by omega), e2, e3, hS]
    rw [show vcV X 206 [vP 39, vI ((4 * c : Nat) : Int), vI ((4 * c + 4 : Nat) : Int), vI 0] S = some σ' from vV_of ((bq_206a_0 X _ _ _ S).trans (by rw [fl_rng (by omega) (by omega) (by omega), bsome]; exact q1)) rfl, bsome]
  · rw [q2.get 28 (by decide) rfl, ← hS, un _ (show ¬ (28 : Nat) = 38 by decide), un _ (show ¬ (28 : Nat) = 37 by decide), un _ (show ¬ (28 : Nat) = 36 by decide), un _ (show ¬ (28 : Nat) = 35 by decide), un _ (show ¬ (28 : Nat) = 34 by decide), un _ (show ¬ (28 : Nat) = 33 by decide), un _ (show ¬ (28 : Nat) = 29 by decide), ue]
  · rw [q2.get 29 (by decide) rfl, ← hS, un _ (show ¬ (29 : Nat) = 38 by decide), un _ (show ¬ (29 : Nat) = 37 by decide), un _ (show ¬ (29 : Nat) = 36 by decide), un _ (show ¬ (29 : Nat) = 35 by decide), un _ (show ¬ (29 : Nat) = 34 by decide), un _ (show ¬ (29 : Nat) = 33 by decide), ue, un _ (show ¬ (29 : Nat) = 28 by decide)]
  · rw [q2.get 33 (by decide) rfl, ← hS, un _ (show ¬ (33 : Nat) = 38 by decide), un _ (show ¬ (33 : Nat) = 37 by decide), un _ (show ¬ (33 : Nat) = 36 by decide), un _ (show ¬ (33 : Nat) = 35 by decide), un _ (show ¬ (33 : Nat) = 34 by decide), ue, un _ (show ¬ (33 : Nat) = 29 by decide), un _ (show ¬ (33 : Nat) = 28 by decide)]
  · rw [q2.get 34 (by decide) rfl, ← hS, un _ (show ¬ (34 : Nat) = 38 by decide), un _ (show ¬ (34 : Nat) = 37 by decide), un _ (show ¬ (34 : Nat) = 36 by decide), un _ (show ¬ (34 : Nat) = 35 by decide), ue, un _ (show ¬ (34 : Nat) = 33 by decide), un _ (show ¬ (34 : Nat) = 29 by decide), un _ (show ¬ (34 : Nat) = 28 by decide)]
  · rw [q2.get 35 (by decide) rfl, ← hS, un _ (show ¬ (35 : Nat) = 38 by decide), un _ (show ¬ (35 : Nat) = 37 by decide), un _ (show ¬ (35 : Nat) = 36 by decide), ue, un _ (show ¬ (35 : Nat) = 34 by decide), un _ (show ¬ (35 : Nat) = 33 by decide), un _ (show ¬ (35 : Nat) = 29 by decide), un _ (show ¬ (35 : Nat) = 28 by decide)]
  · rw [q2.get 36 (by decide) rfl, ← hS, un _ (show ¬ (36 : Nat) = 38 by decide), un _ (show ¬ (36 : Nat) = 37 by decide), ue, un _ (show ¬ (36 : Nat) = 35 by decide), un _ (show ¬ (36 : Nat) = 34 by decide), un _ (show ¬ (36 : Nat) = 33 by decide), un _ (show ¬ (36 : Nat) = 29 by decide), un _ (show ¬ (36 : Nat) = 28 by decide)]
  · rw [q2.get 37 (by decide) rfl, ← hS, un _ (show ¬ (37 : Nat) = 38 by decide), ue, un _ (show ¬ (37 : Nat) = 36 by decide), un _ (show ¬ (37 : Nat) = 35 by decide), un _ (show ¬ (37 : Nat) = 34 by decide), un _ (show ¬ (37 : Nat) = 33 by decide), un _ (show ¬ (37 : Nat) = 29 by decide), un _ (show ¬ (37 : Nat) = 28 by decide)]
  · rw [q2.get 38 (by decide) rfl, ← hS, ue, un _ (show ¬ (38 : Nat) = 37 by decide), un _ (show ¬ (38 : Nat) = 36 by decide), un _ (show ¬ (38 : Nat) = 35 by decide), un _ (show ¬ (38 : Nat) = 34 by decide), un _ (show ¬ (38 : Nat) = 33 by decide), un _ (show ¬ (38 : Nat) = 29 by decide), un _ (show ¬ (38 : Nat) = 28 by decide)]
/-- a new man, ahead of his traits -/
theorem me_new {c : Nat} {a b d e : Int} (ha : 0 ≤ a ∧ a ≤ 99) (hb : 0 ≤ b ∧ b ≤ a) (hd : 0 ≤ d ∧ d ≤ 9) (k : σ 33 c = a ∧ σ 34 c = b ∧ σ 35 c = d ∧ σ 36 c = e ∧ σ 37 c = 0 ∧ σ 38 c = 0) (k39 : ∀ i, i < 4 → σ 39 (4 * c + i) = 0) (m : τ 96 (8 * sd + c) = a ∧ τ 97 (8 * sd + c) = b ∧ τ 98 (8 * sd + c) = d ∧ τ 99 (8 * sd + c) = e ∧ τ 100 (8 * sd + c) = 24) (m2 : ∀ i, i < 4 → τ 102 (4 * (8 * sd + c) + i) = 0 ∧ τ 103 (4 * (8 * sd + c) + i) = 99) : Me1 σ τ sd c := by
  obtain ⟨k1, k2, k3, k4, k5, k6⟩ := k
  obtain ⟨m1, m2', m3, m4, m5⟩ := m
  unfold Me1
  rw [k1, k2, k3, k4, k5, k6, m1, m2', m3, m4, m5]
  refine ⟨⟨rfl, rfl, rfl, rfl⟩, ⟨ha.1, ha.2, hb.1, hb.2, hd.1, hd.2⟩, ⟨Int.le_refl _, by decide⟩, fun h hh => ?_, fun i hi => ?_⟩
  · have := b10_f ⟨h, hh⟩
    dsimp only at this
    rw [this]
    exact ⟨fun _ => by omega, fun _ => rfl⟩
  · rw [(m2 i hi).1, (m2 i hi).2, k39 i hi]
    have := b10_f ⟨i, by omega⟩
    dsimp only at this
    exact ⟨Or.inl rfl, this, Or.inl ⟨rfl, rfl⟩⟩
theorem nb0_man {n c : Nat} {v : Int} (h : NBs σ τ n 0) (hC : CB σ 0) (h28 : σ' 28 = up (σ 28) 1 ((c + 1 : Nat) : Int)) (h29 : σ' 29 = up (σ 29) (4 + c) v) (e88 : τ' 88 = τ 88) (e89 : τ' 89 = τ 89) (e90 : τ' 90 = τ 90) : CB σ' 0 ∧ NBs σ' τ' n 0 := by
  have ec : cn σ' 0 = cn σ 0 := by unfold cn; rw [h28, upa, if_neg (by decide)]
  have c4 : cn σ 0 ≤ 4 := hC.2
  have k : ∀ i, i < cn σ 0 → σ' 29 (off 0 + i) = σ 29 (off 0 + i) := fun i hi => by
    rw [h29, upa, if_neg]
    show ¬ 0 + i = 4 + c
    omega
  refine ⟨?_, ?_, ?_⟩
  · unfold CB
    rw [ec, h28, upa, if_neg (by decide)]
    exact hC
  · rw [e88, e89, e90, ec]
    intro j hj z
    obtain ⟨i, l, i1, i2, i3, i4, i5⟩ := h.1 j hj z
    exact ⟨i, l, i1, i2, i3, i4, by rw [k i i1]; exact i5⟩
  · rw [e89, e90, ec]
    exact h.2
theorem un0_man {c : Nat} {v : Int} (h : UN σ 0) (hC : CB σ 0) (h28 : σ' 28 = up (σ 28) 1 ((c + 1 : Nat) : Int)) (h29 : σ' 29 = up (σ 29) (4 + c) v) : UN σ' 0 := by
  have ec : cn σ' 0 = cn σ 0 := by unfold cn; rw [h28, upa, if_neg (by decide)]
  have c4 : cn σ 0 ≤ 4 := hC.2
  intro i j hi hj e
  rw [ec] at hi hj
  have k : ∀ i, i < cn σ 0 → σ' 29 (off 0 + i) = σ 29 (off 0 + i) := fun i hi => by
    rw [h29, upa, if_neg]
    show ¬ 0 + i = 4 + c
    omega
  rw [k i hi, k j hj] at e
  exact h i j hi hj e
end PJ
