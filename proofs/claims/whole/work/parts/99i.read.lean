/-! READ: the first state, and the end with a fault -/
section PZ
variable {X N n l sd : Nat} {σ τ σc τc : am_Sg} {B : Nat → Int}
theorem si_start (te : TE σc τc N) (s1 : sd ≤ 1) (hc : (∀ j, j < 6 → σc 28 j = 0) ∧ (∀ j, j < 8 → σc 40 j = 0) ∧ (∀ j, j < 8 → σc 45 j = -1) ∧ σc 27 19 = 0 ∧ σc 27 20 = 0) (h47 : σc 47 4 = 0 ∧ σc 47 5 = σc 4 0 ∧ σc 47 6 = 0 ∧ σc 47 7 = -1 ∧ σc 47 8 = 0) (h80 : τc 80 2 = 0 ∧ τc 80 11 = 0 ∧ τc 80 12 = 0 ∧ τc 80 13 = 0 ∧ τc 80 15 = 0 ∧ τc 80 19 = (sd : Int) ∧ τc 80 20 = 0 ∧ τc 80 40 = ((50 * sd : Nat) : Int) ∧ τc 80 56 = ((420 * sd : Nat) : Int)) (hn : τc 91 sd = 0 ∧ τc 95 sd = 0 ∧ τc 104 sd = 0 ∧ τc 112 sd = 0 ∧ τc 115 sd = 0 ∧ τc 118 sd = 0) (hl : ∀ j, j < 8 → τc 105 (8 * sd + j) = 0 ∧ τc 106 (8 * sd + j) = 0) : SI N sd σc τc := by
  obtain ⟨c28, c40, c45, c19, c20⟩ := hc
  obtain ⟨k4, k5, k6, k7, k8⟩ := h47
  obtain ⟨m2, m11, m12, m13, m15, m19, m20, m40, m56⟩ := h80
  obtain ⟨n0, n1, n5, n2, n3, n4⟩ := hn
  have z : ∀ s, s < 6 → cn σc s = 0 := fun s hs => by unfold cn; rw [c28 s hs]; rfl
  have z0 := z 0 (by decide)
  have z1 := z 1 (by decide)
  have z2 := z 2 (by decide)
  have z3 := z 3 (by decide)
  have z4 := z 4 (by decide)
  have z5 := z 5 (by decide)
  have nf : NF N σc τc 0 := by
    refine ⟨Nat.zero_le _, ⟨k6, m13⟩, ⟨k4, m11⟩, k5, ?_⟩
    refine ⟨k8.trans m15.symm, ⟨by rw [m15]; decide, by rw [m15]; decide, k7⟩, fun q => absurd m15 q⟩
  refine ⟨⟨te, Or.inr ⟨0, nf⟩⟩, fun _ => ⟨?_, fun _ => ?_⟩⟩
  · refine ⟨⟨m19, s1⟩, ⟨fun s hs => ?_, ?_, ?_, ?_⟩, ⟨?_, ?_, ?_, ?_, ?_, ?_⟩, ⟨?_, fun s hs => ⟨fun k hk => ?_, fun i hi => ?_⟩, fun k hk => ?_⟩, m12, ⟨0, 0, 0, c19, by rw [k4]; decide, m56, by rw [k4]; decide, m40, Nat.zero_le _, by rw [c20]; decide, by rw [c20]; decide⟩⟩
    · unfold CB
      rw [z s (Nat.lt_trans hs (by decide)), c28 s (Nat.lt_trans hs (by decide))]
      exact ⟨rfl, Nat.zero_le _⟩
    · rw [z3, c28 3 (by decide)]; exact ⟨rfl, by decide⟩
    · rw [z4, c28 4 (by decide)]; exact ⟨rfl, by decide⟩
    · rw [z5, c28 5 (by decide)]; exact ⟨rfl, by decide⟩
    · rw [n0, c28 0 (by decide)]
    · rw [n1, c28 1 (by decide)]
    · rw [n2, c28 2 (by decide)]
    · rw [n3, c28 3 (by decide)]
    · rw [n4, c28 4 (by decide)]
    · rw [n5, c28 5 (by decide)]
    · rw [z0, z1, z2]; exact m20
    · rw [z0, z1, z2] at hk
      exact absurd hk (Nat.not_lt_zero _)
    · rw [z s (Nat.lt_trans hs (by decide))] at hi
      exact absurd hi (Nat.not_lt_zero _)
    · rw [z0, z1, z2] at hk
      exact absurd hk (Nat.not_lt_zero _)
  · refine ⟨fun s hs i j hi => ?_, fun d hd => ?_, fun m hm => ?_, fun b hb => ?_, fun g hg => ?_, fun m hm => ?_, ⟨0, 420 * sd, 50 * sd, fun _ _ _ => 0, ⟨c19, by decide⟩, ⟨m56, by omega⟩, ⟨m40, by omega⟩, ⟨by rw [c20]; decide, by rw [c20]; decide⟩, fun g d hg hd => Or.inl ⟨c45 _ (by omega), ?_, fun _ => rfl⟩⟩⟩
    · rw [z s (Nat.lt_trans hs (by decide))] at hi
      exact absurd hi (Nat.not_lt_zero _)
    · rw [z0] at hd; exact absurd hd (Nat.not_lt_zero _)
    · rw [z1] at hm; exact absurd hm (Nat.not_lt_zero _)
    · rw [z2] at hb; exact absurd hb (Nat.not_lt_zero _)
    · rw [z3] at hg; exact absurd hg (Nat.not_lt_zero _)
    · rw [z4, c40 m hm]; rfl
    · obtain ⟨a, b⟩ := hl (4 * g + d) (by omega)
      rw [← Nat.add_assoc] at a b
      rw [a, b]
/-- told, of a side that is left alone -/
theorem TM.mf {T τ' : am_Sg} {sd : Nat} (h : TM τ T l) (H : TOk T) (hs : ¬ sd = l) (hf : MF sd τ τ') (h18 : τ' 80 18 = τ 80 18) (s1 : sd ≤ 1) : TM τ' T l := by
  have l1 := h.l1
  have d4 := H.d4
  have m8 := H.m8
  have b6 := H.b6
  have g20 := H.g20
  have e20 := h.e20
  have w : ∀ k wk j, 91 ≤ k → k ≤ 123 → wd k = wk → wk * l ≤ j → j < wk * l + wk → τ' k j = τ k j := fun k wk j k1 k2 hw j1 j2 => hf k k1 k2 j (by
    rw [hw]
    rcases (show (sd = 0 ∧ l = 1) ∨ (sd = 1 ∧ l = 0) by omega) with ⟨a, b⟩ | ⟨a, b⟩ <;> subst a <;> subst b <;> omega)
  unfold TM
  refine ⟨⟨h18.trans h.l0, l1⟩, ⟨?_, ?_, ?_, ?_, ?_, h.e0, e20⟩, fun d hd => ?_, fun m hm => ?_, fun m hm d hd => ?_, fun b hb => ?_, fun g hg => ?_, fun m hm => ?_⟩
  · rw [w 91 1 l (by decide) (by decide) (by decide) (by omega) (by omega)]; exact h.nd
  · rw [w 95 1 l (by decide) (by decide) (by decide) (by omega) (by omega)]; exact h.nm
  · rw [w 112 1 l (by decide) (by decide) (by decide) (by omega) (by omega)]; exact h.nb
  · rw [w 115 1 l (by decide) (by decide) (by decide) (by omega) (by omega)]; exact h.ng
  · rw [w 118 1 l (by decide) (by decide) (by decide) (by omega) (by omega)]; exact h.ne
  · rw [w 92 4 _ (by decide) (by decide) (by decide) (by omega) (by omega), w 93 4 _ (by decide) (by decide) (by decide) (by omega) (by omega), w 94 4 _ (by decide) (by decide) (by decide) (by omega) (by omega)]
    exact h.di d hd
  · rw [w 96 8 _ (by decide) (by decide) (by decide) (by omega) (by omega), w 97 8 _ (by decide) (by decide) (by decide) (by omega) (by omega), w 98 8 _ (by decide) (by decide) (by decide) (by omega) (by omega), w 99 8 _ (by decide) (by decide) (by decide) (by omega) (by omega), w 100 8 _ (by decide) (by decide) (by decide) (by omega) (by omega), w 101 8 _ (by decide) (by decide) (by decide) (by omega) (by omega)]
    exact h.mi m hm
  · rw [w 102 32 _ (by decide) (by decide) (by decide) (by omega) (by omega), w 103 32 _ (by decide) (by decide) (by decide) (by omega) (by omega)]
    exact h.hi m hm d hd
  · rw [w 113 6 _ (by decide) (by decide) (by decide) (by omega) (by omega), w 114 6 _ (by decide) (by decide) (by decide) (by omega) (by omega)]
    exact h.bi b hb
  · rw [w 116 20 _ (by decide) (by decide) (by decide) (by omega) (by omega), w 117 20 _ (by decide) (by decide) (by decide) (by omega) (by omega)]
    exact h.gi g hg
  · rw [netS_ag (τ := τ) (τ' := τ') (fun i hi => ⟨w 119 20 _ (by decide) (by decide) (by decide) (by omega) (by omega), w 120 20 _ (by decide) (by decide) (by decide) (by omega) (by omega), w 121 20 _ (by decide) (by decide) (by decide) (by omega) (by omega)⟩)]
    exact h.ni m hm
theorem agL.mf {τ' : am_Sg} {sd : Nat} (h18 : τ 80 18 = (l : Int)) (l1 : l ≤ 1) (hs : ¬ sd = l) (s1 : sd ≤ 1) (hf : MF sd τ τ') (h18' : τ' 80 18 = τ 80 18) : agL τ τ' := by
  refine ⟨fun k hk j hj => ?_, h18'⟩
  rw [h18, tn_nat] at hj
  unfold sdp at hj
  refine hf k (by omega) (by omega) j ?_
  rcases hk with hk | hk | hk
  · by_cases a : k ≤ 106
    · rw [if_pos a] at hj
      have : wd k = 8 := by rcases (show k = 105 ∨ k = 106 by omega) with e | e <;> subst e <;> decide
      rw [this]
      rcases (show (sd = 0 ∧ l = 1) ∨ (sd = 1 ∧ l = 0) by omega) with ⟨a, b⟩ | ⟨a, b⟩ <;> subst a <;> subst b <;> omega
    · rw [if_neg a, if_pos hk.2] at hj
      have : wd k = 50 := by rcases (show k = 107 ∨ k = 108 ∨ k = 109 ∨ k = 110 ∨ k = 111 by omega) with e | e | e | e | e <;> subst e <;> decide
      rw [this]
      rcases (show (sd = 0 ∧ l = 1) ∨ (sd = 1 ∧ l = 0) by omega) with ⟨a, b⟩ | ⟨a, b⟩ <;> subst a <;> subst b <;> omega
  · subst hk
    rw [if_neg (by decide), if_neg (by decide)] at hj
    rw [show wd 122 = 420 by decide]
    rcases (show (sd = 0 ∧ l = 1) ∨ (sd = 1 ∧ l = 0) by omega) with ⟨a, b⟩ | ⟨a, b⟩ <;> subst a <;> subst b <;> omega
  · subst hk
    rw [if_neg (by decide), if_neg (by decide)] at hj
    rw [show wd 123 = 420 by decide]
    rcases (show (sd = 0 ∧ l = 1) ∨ (sd = 1 ∧ l = 0) by omega) with ⟨a, b⟩ | ⟨a, b⟩ <;> subst a <;> subst b <;> omega
end PZ
