/-! READ: where both begin -/
section PX
variable {X n l : Nat} {σ τ : am_Sg} {B : Nat → Int}
theorem c_start (X : Nat) (hn : n ≤ 2000) (hr : ∀ i, i < n → -128 ≤ σ 2 i ∧ σ 2 i < 128) (h15 : σ 1 5 = (n : Int)) (hW : ∀ w, w < 19 → σ 3 w = wdC.getD w 0) (hB : ∀ j, σ 1005 j = am_sb.getD j 0) (h0 : σ 1003 1 = 0) : ∃ N σc p st, vv X 86 0 [some (vP 47), none] [] σ = cM X 0 σc ∧ Fr [1, 4, 5, 6, 27, 28, 40, 45, 47] [] σ σc ∧ σc 1 5 = (n : Int) ∧ N ≤ 400 ∧ DoneC (σ 2) n σc N p st ∧ ((∀ j, j < 6 → σc 28 j = 0) ∧ (∀ j, j < 8 → σc 40 j = 0) ∧ (∀ j, j < 8 → σc 45 j = -1) ∧ σc 27 19 = 0 ∧ σc 27 20 = 0) ∧ (σc 47 4 = 0 ∧ σc 47 5 = σc 4 0 ∧ σc 47 6 = 0 ∧ σc 47 7 = -1 ∧ σc 47 8 = 0) := by
  generalize hσa : am_upd (am_upd (am_row (am_row (am_row σ 28 (fun j => if j < 6 then 0 else σ 28 j)) 40 (fun j => if j < 8 then 0 else σ 40 j)) 45 (fun j => if j < 8 then -1 else σ 45 j)) 27 19 0) 27 20 0 = σa
  have e174 : vcV X 174 [vP 27] σ = some σa := by
    refine vV_of ((bq_174_0 X σ).trans ?_) rfl
    rw [fl_28, bsome, fl_40, bsome, fl_45, bsome, ← hσa]
    rfl
  have Fa : Fr [27, 28, 40, 45] [] σ σa := by
    rw [← hσa]
    exact ((((Fr.rf.row rfl (by decide)).row rfl (by decide)).row rfl (by decide)).upd rfl (by decide)).upd rfl (by decide)
  have a28 : σa 28 = fun j => if j < 6 then 0 else σ 28 j := by rw [← hσa, un _ (by decide), un _ (by decide), rn _ (by decide), rn _ (by decide), re]
  have a40 : σa 40 = fun j => if j < 8 then 0 else σ 40 j := by rw [← hσa, un _ (by decide), un _ (by decide), rn _ (by decide), re]
  have a45 : σa 45 = fun j => if j < 8 then -1 else σ 45 j := by rw [← hσa, un _ (by decide), un _ (by decide), re]
  have a19 : σa 27 19 = 0 := by rw [← hσa]; rfl
  have a20 : σa 27 20 = 0 := by rw [← hσa]; rfl
  have F1 : Fr [1] [] σa (am_upd σa 1 6 0) := Fr.rf.upd rfl (by decide)
  obtain ⟨N, σb, p, st, q1, q2, q3, q4, q5⟩ := c_scanL (X := X) (B := σ 2) hn hr 401 0 (am_upd σa 1 6 0) (fun _ => 0) (fun _ => 0) (by decide) (by decide) (by rw [F1.get 2 (by decide) rfl, Fa.get 2 (by decide) rfl]) (by rw [ue, upa, if_neg (by decide), Fa.get 1 (by decide) rfl]; exact h15) (by rw [ue, upe]; rfl) (fun w hw => by rw [F1.get 3 (by decide) rfl, Fa.get 3 (by decide) rfl]; exact hW w hw) (fun j => by rw [F1.get 1005 (by decide) rfl, Fa.get 1005 (by decide) rfl]; exact hB j) (by rw [F1.get 1003 (by decide) rfl, Fa.get 1003 (by decide) rfl]; exact h0) ⟨rfl, Nat.zero_le _, fun j hj => absurd hj (Nat.not_lt_zero _)⟩
  have e175 : vcV X 175 [vP 1] σa = some σb := vV_of ((bq_175_0 X σa).trans q1) rfl
  generalize hσc : am_upd (am_upd (am_upd (am_upd (am_upd σb 47 4 0) 47 5 (σb 4 0)) 47 6 0) 47 7 (-1)) 47 8 0 = σc
  have Fc : Fr [47] [] σb σc := by
    rw [← hσc]
    exact ((((Fr.rf.upd rfl (by decide)).upd rfl (by decide)).upd rfl (by decide)).upd rfl (by decide)).upd rfl (by decide)
  have Fb : Fr [1, 4, 5, 6] [] σa σb := (F1.mono rfl rfl).tr q3
  have c4 : σc 4 = σb 4 := Fc.get 4 (by decide) rfl
  refine ⟨N, σc, p, st, ?_, ((Fa.mono rfl rfl).tr (Fb.mono rfl rfl)).tr (Fc.mono rfl rfl), ?_, q2, ?_, ⟨fun j hj => ?_, fun j hj => ?_, fun j hj => ?_, ?_, ?_⟩, ⟨?_, ?_, ?_, ?_, ?_⟩⟩
  · rw [bq_86_0, e174, bsome, e175, bsome, bq_86_32, bq_86_42, hσc]
    rfl
  · rw [Fc.get 1 (by decide) rfl, q4 5 (by decide), ue, upa, if_neg (by decide), Fa.get 1 (by decide) rfl]
    exact h15
  · unfold DoneC PreC
    rw [c4, Fc.get 5 (by decide) rfl, Fc.get 6 (by decide) rfl]
    exact q5
  · rw [Fc.get 28 (by decide) rfl, Fb.get 28 (by decide) rfl, a28]
    dsimp only
    rw [if_pos hj]
  · rw [Fc.get 40 (by decide) rfl, Fb.get 40 (by decide) rfl, a40]
    dsimp only
    rw [if_pos hj]
  · rw [Fc.get 45 (by decide) rfl, Fb.get 45 (by decide) rfl, a45]
    dsimp only
    rw [if_pos hj]
  · rw [Fc.get 27 (by decide) rfl, Fb.get 27 (by decide) rfl]; exact a19
  · rw [Fc.get 27 (by decide) rfl, Fb.get 27 (by decide) rfl]; exact a20
  · rw [← hσc]; rfl
  · rw [c4, ← hσc]; rfl
  · rw [← hσc]; rfl
  · rw [← hσc]; rfl
  · rw [← hσc]; rfl
/-! the reference -/
theorem m_copy (X : Nat) (hn : n ≤ 2000) : ∀ (m i : Nat) (τ : am_Sg), i + m = n → τ 80 4 = (n : Int) → (∀ j, j < n → -128 ≤ τ 81 j ∧ τ 81 j < 128) → ∃ τ', vv X 8 10 [some (vP 80), some (vI (i : Int))] [] τ = vv X 8 10 [some (vP 80), some (vI (n : Int))] [] τ' ∧ Fr [82] [] τ τ' ∧ (∀ j, i ≤ j → j < n → τ' 82 j = τ 81 j) ∧ (∀ j, j < i → τ' 82 j = τ 82 j)
  | 0, i, τ, e, h4, hr => ⟨τ, by rw [show i = n by omega], Fr.rf, fun j _ _ => by omega, fun _ _ => rfl⟩
  | m + 1, i, τ, e, h4, hr => by
    have hb := hr i (by omega)
    have ok : am_okT 1 (τ 81 i) = true := by
      unfold am_okT
      simp only [Bool.and_eq_true, decide_eq_true_eq]
      exact hb
    have F1 : Fr [82] [] τ (am_upd τ 82 i (τ 81 i)) := Fr.rf.upd rfl (by decide)
    obtain ⟨τ', q1, q2, q3, q4⟩ := m_copy X hn m (i + 1) (am_upd τ 82 i (τ 81 i)) (by omega) h4 (fun j hj => by rw [F1.get 81 (by decide) rfl]; exact hr j hj)
    refine ⟨τ', ?_, F1.tr q2, fun j a b => ?_, fun j hj => ?_⟩
    · rw [bq_8_10, h4, if_neg (by omega), if_pos (by omega), tn_nat, if_pos ⟨by omega, by omega, ok⟩, w32_s1 (by omega)]
      exact q1
    · by_cases w : j = i
      · subst w
        rw [q4 j (by omega), ue, upe]
      · rw [q3 j (by omega) b, F1.get 81 (by decide) rfl]
    · rw [q4 j (by omega), ue, upa, if_neg (by omega)]
theorem m_zero (X : Nat) {sd : Nat} (h1 : sd ≤ 1) : ∀ (m k : Nat) (τ : am_Sg), k + m = 8 → τ 80 19 = (sd : Int) → ∃ τ', vv X 8 165 [some (vP 80), some (vI (k : Int))] [] τ = vv X 8 207 [some (vP 80), none] [] τ' ∧ Fr [105, 106] [] τ τ' ∧ MG sd τ τ' ∧ (∀ j, k ≤ j → j < 8 → τ' 105 (8 * sd + j) = 0 ∧ τ' 106 (8 * sd + j) = 0) ∧ (∀ j, j < 8 * sd + k → τ' 105 j = τ 105 j ∧ τ' 106 j = τ 106 j)
  | 0, k, τ, e, h19 => ⟨τ, by rw [bq_8_165, if_pos (by omega)], Fr.rf, MG.rf, fun j _ _ => by omega, fun _ _ => ⟨rfl, rfl⟩⟩
  | m + 1, k, τ, e, h19 => by
    have ei : w32 (w32 (8 * (sd : Int)) + (k : Int)) = ((8 * sd + k : Nat) : Int) := kxw h1 (by omega) (show 8 ≤ 100 by decide)
    have kr : (0 : Int) ≤ ((8 * sd + k : Nat) : Int) ∧ ((8 * sd + k : Nat) : Int) < 16 := by omega
    have F1 : Fr [105, 106] [] τ (am_upd (am_upd τ 105 (8 * sd + k) 0) 106 (8 * sd + k) 0) := (Fr.rf.upd rfl (by decide)).upd rfl (by decide)
    have k8 : k < 8 := by omega
    have M1 : MG sd τ (am_upd (am_upd τ 105 (8 * sd + k) 0) 106 (8 * sd + k) 0) := (MG.rf.upd rfl (Or.inr (Or.inr (wrg (by decide) k8)))).upd rfl (Or.inr (Or.inr (wrg (by decide) k8)))
    obtain ⟨τ', q1, q2, q3, q4, q5⟩ := m_zero X h1 m (k + 1) (am_upd (am_upd τ 105 (8 * sd + k) 0) 106 (8 * sd + k) 0) (by omega) h19
    refine ⟨τ', ?_, F1.tr q2, M1.tr q3, fun j a b => ?_, fun j hj => ?_⟩
    · rw [bq_8_165, if_neg (by omega), h19, ei, if_pos kr, tn_nat, bq_8_201, w32_s1 (by omega)]
      exact q1
    · by_cases w : j = k
      · subst w
        obtain ⟨p1, p2⟩ := q5 (8 * sd + j) (by omega)
        rw [p1, p2, un _ (show ¬ (105 : Nat) = 106 by decide), ue, ue, upe, upe]
        exact ⟨rfl, rfl⟩
      · exact q4 j (by omega) b
    · obtain ⟨p1, p2⟩ := q5 j (by omega)
      rw [p1, p2, un _ (show ¬ (105 : Nat) = 106 by decide), ue, ue, upa, upa, if_neg (by omega), if_neg (by omega), un _ (show ¬ (106 : Nat) = 105 by decide)]
      exact ⟨rfl, rfl⟩
end PX
