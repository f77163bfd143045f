/-! READ: both at the first token -/
section PY
variable {X n l : Nat} {σ τ : am_Sg} {B : Nat → Int}
def sc : List Nat := [82, 83, 84, 85, 86, 91, 95, 104, 105, 106, 112, 115, 118]
def sj : List Nat := [2, 4, 10, 11, 12, 13, 15, 19, 20, 40, 56]
theorem m_start (X : Nat) {sd : Nat} (hBt : ∀ i, i < n → τ 81 i = B i) (hn : n ≤ 2000) (hr : ∀ i, i < n → -128 ≤ τ 81 i ∧ τ 81 i < 128) (h2 : τ 80 2 = (n : Int)) (hW : ∀ w, w < 19 → τ 87 w = wdM.getD w 0) (h18 : w32 (1 - τ 80 18) = (sd : Int)) (s1 : sd ≤ 1) : ∃ M τc p st, vv X 8 0 [some (vP 80), none] [] τ = vv X 8 207 [some (vP 80), none] [] τc ∧ Fr sc sj τ τc ∧ MF sd τ τc ∧ DoneM B n τc M p st ∧ (τc 80 2 = 0 ∧ τc 80 11 = 0 ∧ τc 80 12 = 0 ∧ τc 80 13 = 0 ∧ τc 80 15 = 0 ∧ τc 80 19 = (sd : Int) ∧ τc 80 20 = 0 ∧ τc 80 40 = ((50 * sd : Nat) : Int) ∧ τc 80 56 = ((420 * sd : Nat) : Int)) ∧ (τc 91 sd = 0 ∧ τc 95 sd = 0 ∧ τc 104 sd = 0 ∧ τc 112 sd = 0 ∧ τc 115 sd = 0 ∧ τc 118 sd = 0) ∧ (∀ j, j < 8 → τc 105 (8 * sd + j) = 0 ∧ τc 106 (8 * sd + j) = 0) := by
  have F0 : Fr [] [4] τ (am_upd τ 80 4 (τ 80 2)) := Fr.rf.upf rfl
  obtain ⟨τ1, a1, a2, a3, -⟩ := m_copy X hn n 0 (am_upd τ 80 4 (τ 80 2)) (by omega) (by rw [ue, upe]; exact h2) (fun j hj => by rw [F0.get 81 (by decide) rfl]; exact hr j hj)
  have b4 : τ1 80 4 = (n : Int) := by rw [a2.fld 4 rfl, ue, upe]; exact h2
  generalize hτ2 : am_upd (am_upd τ1 80 2 0) 80 10 0 = τ2
  have F2 : Fr [] [2, 10] τ1 τ2 := by rw [← hτ2]; exact (Fr.rf.upf rfl).upf rfl
  have t82 : ∀ j, j < n → τ2 82 j = B j := fun j hj => by
    rw [F2.get 82 (by decide) rfl, a3 j (Nat.zero_le _) hj, F0.get 81 (by decide) rfl]
    exact hBt j hj
  obtain ⟨M, τ3, p, st, c1, c2, c3⟩ := m_cutL (X := X) (B := B) hn (fun i hi => by rw [← hBt i hi]; exact hr i hi) n 0 0 τ2 (fun _ => 0) (fun _ => 0) (Nat.le_refl _) (by decide) (by rw [F2.fld 4 rfl]; exact b4) t82 (fun w hw => by rw [F2.get 87 (by decide) rfl, a2.get 87 (by decide) rfl, F0.get 87 (by decide) rfl]; exact hW w hw) (by rw [← hτ2, ue, upe]; rfl) (Nat.le_refl _) (Nat.zero_le _) (fun j a b => by omega) ⟨rfl, Nat.zero_le _, fun j hj => absurd hj (Nat.not_lt_zero _)⟩
  have e90 : vcV X 90 [vP 80] (am_upd τ1 80 2 0) = some τ3 := vV_of ((bq_90_0 X _).trans (by rw [hτ2]; exact c1)) rfl
  have d18 : τ3 80 18 = τ 80 18 := by rw [c2.fld 18 rfl, F2.fld 18 rfl, a2.fld 18 rfl, F0.fld 18 rfl]
  generalize hτ4 : am_upd (am_upd (am_upd (am_upd (am_upd (am_upd τ3 80 11 0) 80 12 0) 80 13 0) 80 15 0) 80 19 (sd : Int)) 80 20 0 = τ4
  have F4 : Fr [] [11, 12, 13, 15, 19, 20] τ3 τ4 := by rw [← hτ4]; exact (((((Fr.rf.upf rfl).upf rfl).upf rfl).upf rfl).upf rfl).upf rfl
  have g19 : τ4 80 19 = (sd : Int) := by rw [← hτ4]; rfl
  have sr := sr_of s1
  have w50 : w32 (50 * (sd : Int)) = ((50 * sd : Nat) : Int) := by rw [w32_id (by omega) (by omega)]; omega
  have w420 : w32 (420 * (sd : Int)) = ((420 * sd : Nat) : Int) := by rw [w32_id (by omega) (by omega)]; omega
  generalize hτ5 : am_upd (am_upd (am_upd (am_upd (am_upd (am_upd (am_upd (am_upd τ4 91 sd 0) 95 sd 0) 104 sd 0) 80 40 ((50 * sd : Nat) : Int)) 112 sd 0) 115 sd 0) 118 sd 0) 80 56 ((420 * sd : Nat) : Int) = τ5
  have F5 : Fr [91, 95, 104, 112, 115, 118] [40, 56] τ4 τ5 := by
    rw [← hτ5]
    exact (((((((Fr.rf.upd rfl (by decide)).upd rfl (by decide)).upd rfl (by decide)).upf rfl).upd rfl (by decide)).upd rfl (by decide)).upd rfl (by decide)).upf rfl
  have MG5 : MG sd τ4 τ5 := by
    rw [← hτ5]
    exact (((((((MG.rf.upd rfl (Or.inr (Or.inr (wrg1 (by decide))))).upd rfl (Or.inr (Or.inr (wrg1 (by decide))))).upd rfl (Or.inr (Or.inr (wrg1 (by decide))))).upf rfl).upd rfl (Or.inr (Or.inr (wrg1 (by decide))))).upd rfl (Or.inr (Or.inr (wrg1 (by decide))))).upd rfl (Or.inr (Or.inr (wrg1 (by decide))))).upf rfl
  have h19 : τ5 80 19 = (sd : Int) := by rw [F5.fld 19 rfl]; exact g19
  obtain ⟨τc, e1, e2, e3, e4, -⟩ := m_zero X s1 8 0 τ5 rfl h19
  have step : vv X 8 55 [some (vP 80), some (vI (n : Int))] [] (am_upd (am_upd τ3 80 11 0) 80 12 0) = vv X 8 207 [some (vP 80), none] [] τc := by
    have q1 : ∀ x y a b : Int, am_upd (am_upd (am_upd (am_upd τ3 80 11 x) 80 12 y) 80 13 a) 80 15 b 80 18 = τ 80 18 := fun _ _ _ _ => d18
    have q2 : ∀ x y : Int, am_upd (am_upd τ4 91 sd x) 95 sd y 80 19 = (sd : Int) := fun _ _ => g19
    have q3 : ∀ x y z w : Int, am_upd (am_upd (am_upd (am_upd τ4 91 sd x) 95 sd y) 104 sd z) 80 40 w 80 19 = (sd : Int) := fun _ _ _ _ => g19
    have q4 : ∀ x y z w u v : Int, am_upd (am_upd (am_upd (am_upd (am_upd (am_upd τ4 91 sd x) 95 sd y) 104 sd z) 80 40 w) 112 sd u) 115 sd v 80 19 = (sd : Int) := fun _ _ _ _ _ _ => g19
    rw [bq_8_55, bq_8_65, q1, h18, hτ4, bq_8_80, g19, if_pos sr, tn_nat, bq_8_100, q2, if_pos sr, tn_nat, w50, bq_8_121, q3, if_pos sr, tn_nat, bq_8_141, q4, if_pos sr, tn_nat, w420, hτ5, bq_8_163]
    exact e1
  have f40 : ∀ k, 91 ≤ k → k ≤ 123 → τ4 k = τ k := fun k k1 k2 => by
    have k8 : ¬ k = 80 := by omega
    have n4 : [83, 84, 85, 86].contains k = false := by
      cases hc : [83, 84, 85, 86].contains k with
      | false => rfl
      | true =>
        have : k = 83 ∨ k = 84 ∨ k = 85 ∨ k = 86 := by simpa using hc
        omega
    have n2 : [82].contains k = false := by
      cases hc : [82].contains k with
      | false => rfl
      | true =>
        have : k = 82 := by simpa using hc
        omega
    rw [F4.get k k8 rfl, c2.get k k8 n4, F2.get k k8 rfl, a2.get k k8 n2, F0.get k k8 rfl]
  have k5 : ∀ k, ¬ k = 105 → ¬ k = 106 → ¬ k = 80 → τc k = τ5 k := fun k h1 h2 h8 => e2.get k h8 (by
    cases hc : [105, 106].contains k with
    | false => rfl
    | true =>
      have : k = 105 ∨ k = 106 := by simpa using hc
      omega)
  refine ⟨M, τc, p, st, ?_, ?_, ?_, ?_, ⟨?_, ?_, ?_, ?_, ?_, ?_, ?_, ?_, ?_⟩, ⟨?_, ?_, ?_, ?_, ?_, ?_⟩, fun j hj => e4 j (Nat.zero_le _) hj⟩
  · rw [bq_8_0, show vv X 8 10 [some (vP 80), some (vI 0)] [] (am_upd τ 80 4 (τ 80 2)) = vv X 8 10 [some (vP 80), some (vI (n : Int))] [] τ1 from a1, bq_8_10, b4, if_pos (Int.le_refl _), e90, bsome]
    exact step
  · exact (((((F0.mono rfl rfl).tr (a2.mono rfl rfl)).tr (F2.mono rfl rfl)).tr (c2.mono rfl rfl)).tr (F4.mono rfl rfl)).tr ((F5.mono rfl rfl).tr (e2.mono rfl rfl))
  · intro k k1 k2 j hj
    rw [e3.2 k k1 k2 j hj, MG5.2 k k1 k2 j hj, f40 k k1 k2]
  · have g : ∀ k, k = 83 ∨ k = 84 ∨ k = 85 ∨ k = 86 → τc k = τ3 k := fun k hk => by
      rcases hk with e | e | e | e <;> subst e
      · rw [e2.get 83 (by decide) rfl, F5.get 83 (by decide) rfl, F4.get 83 (by decide) rfl]
      · rw [e2.get 84 (by decide) rfl, F5.get 84 (by decide) rfl, F4.get 84 (by decide) rfl]
      · rw [e2.get 85 (by decide) rfl, F5.get 85 (by decide) rfl, F4.get 85 (by decide) rfl]
      · rw [e2.get 86 (by decide) rfl, F5.get 86 (by decide) rfl, F4.get 86 (by decide) rfl]
    unfold DoneM PreM
    rw [g 83 (Or.inl rfl), g 84 (Or.inr (Or.inl rfl)), g 85 (Or.inr (Or.inr (Or.inl rfl))), g 86 (Or.inr (Or.inr (Or.inr rfl)))]
    exact c3
  · rw [e2.fld 2 rfl, F5.fld 2 rfl, F4.fld 2 rfl, c2.fld 2 rfl, ← hτ2]; rfl
  · rw [e2.fld 11 rfl, F5.fld 11 rfl, ← hτ4]; rfl
  · rw [e2.fld 12 rfl, F5.fld 12 rfl, ← hτ4]; rfl
  · rw [e2.fld 13 rfl, F5.fld 13 rfl, ← hτ4]; rfl
  · rw [e2.fld 15 rfl, F5.fld 15 rfl, ← hτ4]; rfl
  · rw [e2.fld 19 rfl]; exact h19
  · rw [e2.fld 20 rfl, F5.fld 20 rfl, ← hτ4]; rfl
  · rw [e2.fld 40 rfl, ← hτ5]; rfl
  · rw [e2.fld 56 rfl, ← hτ5]; rfl
  · rw [k5 91 (by decide) (by decide) (by decide), ← hτ5, un _ (by decide), un _ (by decide), un _ (by decide), un _ (by decide), un _ (by decide), un _ (by decide), un _ (by decide), ue, upe]
  · rw [k5 95 (by decide) (by decide) (by decide), ← hτ5, un _ (by decide), un _ (by decide), un _ (by decide), un _ (by decide), un _ (by decide), un _ (by decide), ue, upe]
  · rw [k5 104 (by decide) (by decide) (by decide), ← hτ5, un _ (by decide), un _ (by decide), un _ (by decide), un _ (by decide), un _ (by decide), ue, upe]
  · rw [k5 112 (by decide) (by decide) (by decide), ← hτ5, un _ (by decide), un _ (by decide), un _ (by decide), ue, upe]
  · rw [k5 115 (by decide) (by decide) (by decide), ← hτ5, un _ (by decide), un _ (by decide), ue, upe]
  · rw [k5 118 (by decide) (by decide) (by decide), ← hτ5, un _ (by decide), ue, upe]
/-- tokens as both see them -/
theorem te_of {N M : Nat} {p st p' st' : Nat → Nat} (hr : ∀ i, i < n → -128 ≤ B i ∧ B i < 128) (hN : N ≤ 400) (hC : DoneC B n σ N p st) (hM : DoneM B n τ M p' st') : TE σ τ N := by
  have adj : ∀ j, j < N → σ 5 j < σ 5 (j + 1) := fun j hj => by
    obtain ⟨a1, a2, a3, a4, -⟩ := hC.1.2.2 j hj
    have g := a4.gt a3
    by_cases w : j + 1 = N
    · have b := hC.2.1
      have b2 := hC.2.2.1.1
      rw [a1, w, b]
      rw [← w] at b2 ⊢
      omega
    · obtain ⟨b1, b2, -⟩ := hC.1.2.2 (j + 1) (by omega)
      have := b2.1
      rw [a1, b1]
      omega
  refine ⟨hN, toks_same hr hC hN hM, ?_, fun i j hij hj => ?_, fun j hj hk => ?_⟩
  · rcases hC.2.2.2 with ⟨-, q⟩ | ⟨-, e, -, q | q⟩
    · exact Or.inr (Or.inl q)
    · exact Or.inr (Or.inr q)
    · exact Or.inl q
  · have key : ∀ m i, i + m + 1 ≤ N → σ 5 i < σ 5 (i + m + 1) := fun m => by
      induction m with
      | zero => intro i h; exact adj i (by omega)
      | succ m ih =>
        intro i h
        have a := ih i (by omega)
        have b := adj (i + m + 1) (by omega)
        exact Int.lt_trans a b
    have := key (j - i - 1) i (by omega)
    rwa [show i + (j - i - 1) + 1 = j by omega] at this
  · by_cases w : j < N
    · obtain ⟨-, -, -, a4, -⟩ := hC.1.2.2 j w
      exact a4.int hk
    · have e : j = N := by omega
      subst e
      rcases hC.2.2.2 with ⟨-, q⟩ | ⟨-, e, q, -⟩
      · rw [q] at hk
        exact absurd hk (by decide)
      · exact q.int hk
end PY
