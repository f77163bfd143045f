/-! TOKENS: the reference's whole cut -/
section CY
variable {X : Nat} {B : Nat → Int} {n : Nat}
def PreM (B : Nat → Int) (n : Nat) (σ : am_Sg) (t : Nat) (p st : Nat → Nat) : Prop := p 0 = 0 ∧ p t ≤ n ∧ ∀ j, j < t → σ 84 j = ((st j : Nat) : Int) ∧ Run isBl B n (p j) (st j) ∧ st j < n ∧ KM B n (st j) (σ 83 j) (σ 85 j) (σ 86 j) (p (j + 1))
def DoneM (B : Nat → Int) (n : Nat) (σ : am_Sg) (M : Nat) (p st : Nat → Nat) : Prop := PreM B n σ M p st ∧ ((M ≤ 400 ∧ σ 84 M = (n : Int) ∧ σ 83 M = 0 ∧ Run isBl B n (p M) n) ∨ M = 401)
theorem lay_fr {σ : am_Sg} {t : Nat} {k w v nm : Int} : Fr [83, 84, 85, 86] [10] σ (lay σ t k w v nm) := ((((Fr.rf.upd rfl (by decide)).upd rfl (by decide)).upd rfl (by decide)).upd rfl (by decide)).upf rfl
theorem lay_83 {σ : am_Sg} {t : Nat} {k w v nm : Int} : lay σ t k w v nm 83 = up (σ 83) t k := by
  unfold lay
  rw [un _ (show ¬ (83 : Nat) = 80 by decide), un _ (show ¬ (83 : Nat) = 86 by decide), un _ (show ¬ (83 : Nat) = 85 by decide), un _ (show ¬ (83 : Nat) = 84 by decide), ue]
theorem lay_84 {σ : am_Sg} {t : Nat} {k w v nm : Int} : lay σ t k w v nm 84 = up (σ 84) t w := by
  unfold lay
  rw [un _ (show ¬ (84 : Nat) = 80 by decide), un _ (show ¬ (84 : Nat) = 86 by decide), un _ (show ¬ (84 : Nat) = 85 by decide), ue, un _ (show ¬ (84 : Nat) = 83 by decide)]
theorem lay_85 {σ : am_Sg} {t : Nat} {k w v nm : Int} : lay σ t k w v nm 85 = up (σ 85) t v := by
  unfold lay
  rw [un _ (show ¬ (85 : Nat) = 80 by decide), un _ (show ¬ (85 : Nat) = 86 by decide), ue, un _ (show ¬ (85 : Nat) = 84 by decide), un _ (show ¬ (85 : Nat) = 83 by decide)]
theorem lay_86 {σ : am_Sg} {t : Nat} {k w v nm : Int} : lay σ t k w v nm 86 = up (σ 86) t nm := by
  unfold lay
  rw [un _ (show ¬ (86 : Nat) = 80 by decide), ue, un _ (show ¬ (86 : Nat) = 85 by decide), un _ (show ¬ (86 : Nat) = 84 by decide), un _ (show ¬ (86 : Nat) = 83 by decide)]
theorem lay_10 {σ : am_Sg} {t : Nat} {k w v nm : Int} : lay σ t k w v nm 80 10 = ((t + 1 : Nat) : Int) := by
  unfold lay
  rw [ue, upa, if_pos rfl]
theorem PreM.ag {σ σ' : am_Sg} {t : Nat} {p st p' st' : Nat → Nat} (h : PreM B n σ t p st) (h4 : ∀ j, j < t → σ' 83 j = σ 83 j ∧ σ' 84 j = σ 84 j ∧ σ' 85 j = σ 85 j ∧ σ' 86 j = σ 86 j) (hp : ∀ j, j ≤ t → p' j = p j) (hs : ∀ j, j < t → st' j = st j) : PreM B n σ' t p' st' := by
  refine ⟨by rw [hp 0 (by omega)]; exact h.1, by rw [hp t (by omega)]; exact h.2.1, fun j hj => ?_⟩
  obtain ⟨a1, a2, a3, a4⟩ := h4 j hj
  rw [a1, a2, a3, a4, hp j (by omega), hp (j + 1) (by omega), hs j hj]
  exact h.2.2 j hj
theorem lay_ag {σ : am_Sg} {t : Nat} {k w v nm : Int} : ∀ j, j < t → lay σ t k w v nm 83 j = σ 83 j ∧ lay σ t k w v nm 84 j = σ 84 j ∧ lay σ t k w v nm 85 j = σ 85 j ∧ lay σ t k w v nm 86 j = σ 86 j := fun j hj => by
  rw [lay_83, lay_84, lay_85, lay_86, upa, upa, upa, upa, if_neg (by omega), if_neg (by omega), if_neg (by omega), if_neg (by omega)]
  exact ⟨rfl, rfl, rfl, rfl⟩
theorem m_cutL (hn : n ≤ 2000) (hr : ∀ i, i < n → -128 ≤ B i ∧ B i < 128) : ∀ (m i t : Nat) (σ : am_Sg) (p st : Nat → Nat), n - i ≤ m → t ≤ 401 → σ 80 4 = (n : Int) → (∀ i, i < n → σ 82 i = B i) → (∀ w, w < 19 → σ 87 w = wdM.getD w 0) → σ 80 10 = (t : Int) → p t ≤ i → i ≤ n → (∀ j, p t ≤ j → j < i → isBl (B j)) → PreM B n σ t p st → ∃ M σ' p' st', vv X 90 7 [some (vP 80), some (vI (i : Int)), none, none, none, none, none, none] [] σ = some (none, σ') ∧ Fr [83, 84, 85, 86] [10] σ σ' ∧ DoneM B n σ' M p' st' := by
  intro m
  induction m with
  | zero =>
    intro i t σ p st hm ht h4 hB hW h10 hpi hi hbl hP
    by_cases t4 : t = 401
    · exact ⟨t, σ, p, st, by rw [bq_90_7, h10, if_pos (by omega)], Fr.rf, hP, Or.inr t4⟩
    · refine ⟨t, lay σ t 0 (n : Int) 0 0, p, st, ?_, lay_fr, hP.ag lay_ag (fun _ _ => rfl) (fun _ _ => rfl), Or.inl ⟨by omega, by rw [lay_84, upa, if_pos rfl], by rw [lay_83, upa, if_pos rfl], ⟨hP.2.1, fun j a1 a2 => ⟨a2, hbl j a1 (by omega)⟩, fun q => by omega⟩⟩⟩
      rw [bq_90_7, h10, if_neg (by omega), m_byte hn h4 hB hr, bsome]
      dsimp +instances only
      rw [h4, if_neg (by omega), m_tok (by omega) h10, bsome]
  | succ m ih =>
    intro i t σ p st hm ht h4 hB hW h10 hpi hi hbl hP
    by_cases t4 : t = 401
    · exact ⟨t, σ, p, st, by rw [bq_90_7, h10, if_pos (by omega)], Fr.rf, hP, Or.inr t4⟩
    · by_cases z : i = n
      · refine ⟨t, lay σ t 0 (n : Int) 0 0, p, st, ?_, lay_fr, hP.ag lay_ag (fun _ _ => rfl) (fun _ _ => rfl), Or.inl ⟨by omega, by rw [lay_84, upa, if_pos rfl], by rw [lay_83, upa, if_pos rfl], ⟨hP.2.1, fun j a1 a2 => ⟨a2, hbl j a1 (by omega)⟩, fun q => by omega⟩⟩⟩
        rw [bq_90_7, h10, if_neg (by omega), m_byte hn h4 hB hr, bsome]
        dsimp +instances only
        rw [h4, if_neg (by omega), m_tok (by omega) h10, bsome]
      · have il : i < n := by omega
        by_cases b : isBl (B i)
        · obtain ⟨M, σ', p', st', q1, q2, q3⟩ := ih (i + 1) t σ p st (by omega) ht h4 hB hW h10 (by omega) (by omega) (fun j a1 a2 => by
            by_cases w : j = i
            · rw [w]; exact b
            · exact hbl j a1 (by omega)) hP
          refine ⟨M, σ', p', st', ?_, q2, q3⟩
          have eb : bA B n i = B i := bA_in il (by unfold isBl at b; omega)
          have nx : vv X 90 67 [some (vP 80), some (vI (i : Int)), none, none, none, none, none, none] [] σ = some (none, σ') := by
            rw [bq_90_67, w32_s1 (by omega), bq_90_291]
            exact q1
          rw [bq_90_7, h10, if_neg (by omega), m_byte hn h4 hB hr, bsome]
          dsimp +instances only
          rw [h4, if_pos (show (i : Int) < (n : Int) by omega), eb]
          by_cases b1 : B i = 9
          · rw [if_pos b1]; exact nx
          · rw [if_neg b1]
            by_cases b2 : B i = 10
            · rw [if_pos b2]; exact nx
            · rw [if_neg b2]
              by_cases b3 : B i = 13
              · rw [if_pos b3]; exact nx
              · rw [if_neg b3, if_neg (show ¬ ¬ B i = 32 by unfold isBl at b; omega)]
                exact nx
        · obtain ⟨k, v, nm, e, e1, hk, ie, el⟩ := m_token (X := X) hn h4 hB hr hW (show t ≤ 400 by omega) h10 il b
          have fl := lay_fr (σ := σ) (t := t) (k := k) (w := (i : Int)) (v := v) (nm := nm)
          have run : Run isBl B n (p t) i := ⟨hpi, fun j a1 a2 => ⟨by omega, hbl j a1 a2⟩, fun q => b q.2⟩
          obtain ⟨M, σ', p', st', q1, q2, q3⟩ := ih e (t + 1) (lay σ t k (i : Int) v nm) (upN p (t + 1) e) (upN st t i) (by omega) (by omega) (by rw [fl.fld 4 rfl]; exact h4) (fun j hj => by rw [fl.get 82 (by decide) rfl]; exact hB j hj) (fun w hw => by rw [fl.get 87 (by decide) rfl]; exact hW w hw) lay_10 (by unfold upN; rw [if_pos rfl]; exact Nat.le_refl _) el (fun j a1 a2 => by
            unfold upN at a1
            rw [if_pos rfl] at a1
            omega) (by
            refine ⟨?_, ?_, fun j hj => ?_⟩
            · unfold upN
              rw [if_neg (by omega)]
              exact hP.1
            · unfold upN
              rw [if_pos rfl]
              exact el
            · by_cases w : j = t
              · subst w
                rw [show upN p (j + 1) e j = p j by unfold upN; rw [if_neg (by omega)], show upN p (j + 1) e (j + 1) = e by unfold upN; rw [if_pos rfl], show upN st j i j = i by unfold upN; rw [if_pos rfl], lay_83, lay_84, lay_85, lay_86, upe, upe, upe, upe]
                exact ⟨rfl, run, il, hk⟩
              · obtain ⟨a1, a2, a3, a4⟩ := lay_ag (σ := σ) (t := t) (k := k) (w := (i : Int)) (v := v) (nm := nm) j (by omega)
                rw [show upN p (t + 1) e j = p j by unfold upN; rw [if_neg (by omega)], show upN p (t + 1) e (j + 1) = p (j + 1) by unfold upN; rw [if_neg (by omega)], show upN st t i j = st j by unfold upN; rw [if_neg w], a1, a2, a3, a4]
                exact hP.2.2 j (by omega))
          exact ⟨M, σ', p', st', e1.trans q1, fl.tr q2, q3⟩
end CY
