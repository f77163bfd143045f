/-! TOKENS: the class's scan -/
section SS
variable {X : Nat}
theorem c_blankL {n i : Nat} {t : Int} (hn : n ≤ 2000) : ∀ (m k : Nat) (σ : am_Sg), i + k + m = n → σ 1 5 = (n : Int) → σ 1 6 = ((i + k : Nat) : Int) → (∀ j, j < k → isBl (σ 2 (i + j))) → ∃ s : Nat, vv X 175 14 [some (vP 1), some (vI t)] [] σ = vv X 175 53 [some (vP 1), some (vI t)] [] (am_upd σ 1 6 (s : Int)) ∧ Run isBl (σ 2) n i s
  | 0, k, σ, e, h5, h6, hl => by
    refine ⟨i + k, ?_, ⟨by omega, fun j a1 a2 => ⟨by omega, ?_⟩, fun q => by omega⟩⟩
    · rw [bq_175_14, h5, h6, if_pos (by omega), us h6]
    · have := hl (j - i) (by omega)
      rwa [show i + (j - i) = j by omega] at this
  | m + 1, k, σ, e, h5, h6, hl => by
    by_cases z : isBl (σ 2 (i + k))
    · obtain ⟨s, q1, q2⟩ := c_blankL (i := i) (t := t) hn m (k + 1) (am_upd σ 1 6 ((i + k + 1 : Nat) : Int)) (by omega) (by rw [ue, upa, if_neg (by decide)]; exact h5) (by rw [ue, upa, if_pos rfl]; rfl) (fun j hj => by
        rw [un _ (show ¬ (2 : Nat) = 1 by decide)]
        by_cases w : j = k
        · rw [w]; exact z
        · exact hl j (by omega))
      rw [un _ (show ¬ (2 : Nat) = 1 by decide)] at q2
      refine ⟨s, ?_, q2⟩
      rw [bq_175_14, h5, h6, if_neg (by omega), if_pos (by omega), tn_nat, c_blank, bsome]
      dsimp +instances only
      rw [if_pos z, if_neg i10, h6, w32_s1 (by omega)]
      refine q1.trans ?_
      rw [u2]
    · refine ⟨i + k, ?_, ⟨by omega, fun j a1 a2 => ⟨by omega, ?_⟩, fun q => z q.2⟩⟩
      · rw [bq_175_14, h5, h6, if_neg (by omega), if_pos (by omega), tn_nat, c_blank, bsome]
        dsimp +instances only
        rw [if_neg z, if_pos rfl, us h6]
      · have := hl (j - i) (by omega)
        rwa [show i + (j - i) = j by omega] at this
/-- the tokens ahead of t -/
def PreC (B : Nat → Int) (n : Nat) (σ : am_Sg) (t : Nat) (p st : Nat → Nat) : Prop := p 0 = 0 ∧ p t ≤ n ∧ ∀ j, j < t → σ 5 j = ((st j : Nat) : Int) ∧ Run isBl B n (p j) (st j) ∧ st j < n ∧ KC B n (st j) (σ 4 j) (σ 6 j) (p (j + 1)) ∧ ¬ σ 4 j = 1
def DoneC (B : Nat → Int) (n : Nat) (σ : am_Sg) (N : Nat) (p st : Nat → Nat) : Prop := PreC B n σ N p st ∧ σ 5 N = ((st N : Nat) : Int) ∧ Run isBl B n (p N) (st N) ∧ ((st N = n ∧ σ 4 N = 0) ∨ (st N < n ∧ ∃ e, KC B n (st N) (σ 4 N) (σ 6 N) e ∧ (σ 4 N = 1 ∨ N = 400)))
theorem PreC.ag {B : Nat → Int} {n : Nat} {σ σ' : am_Sg} {t : Nat} {p st p' st' : Nat → Nat} (h : PreC B n σ t p st) (h4 : ∀ j, j < t → σ' 4 j = σ 4 j ∧ σ' 5 j = σ 5 j ∧ σ' 6 j = σ 6 j) (hp : ∀ j, j ≤ t → p' j = p j) (hs : ∀ j, j < t → st' j = st j) : PreC B n σ' t p' st' := by
  refine ⟨by rw [hp 0 (by omega)]; exact h.1, by rw [hp t (by omega)]; exact h.2.1, fun j hj => ?_⟩
  obtain ⟨a1, a2, a3⟩ := h4 j hj
  rw [a1, a2, a3, hp j (by omega), hp (j + 1) (by omega), hs j hj]
  exact h.2.2 j hj
theorem KC.le {B : Nat → Int} {n i e : Nat} {k v : Int} (h : KC B n i k v e) (hi : i < n) : e ≤ n := by
  rcases h with h | h | h
  · exact h.2.1.le (by omega)
  · exact h.2.2.1.le (by omega)
  · have := h.2.2.1
    omega
theorem KC.k0 {B : Nat → Int} {n i e : Nat} {k v : Int} (h : KC B n i k v e) : ¬ k = 0 := by
  rcases h with ⟨-, -, h | ⟨-, -, ⟨w, -, h, -⟩ | h⟩⟩ | ⟨-, -, -, h | h⟩ | ⟨-, -, -, h | h⟩
  · omega
  · omega
  · omega
  · omega
  · omega
  · have := (sb_pos _ h.1).1
    omega
  · omega
theorem c_scanL {n : Nat} {B : Nat → Int} (hn : n ≤ 2000) (hr : ∀ i, i < n → -128 ≤ B i ∧ B i < 128) : ∀ (m t : Nat) (σ : am_Sg) (p st : Nat → Nat), t + m = 401 → 0 < m → σ 2 = B → σ 1 5 = (n : Int) → σ 1 6 = ((p t : Nat) : Int) → (∀ w, w < 19 → σ 3 w = wdC.getD w 0) → (∀ j, σ 1005 j = am_sb.getD j 0) → σ 1003 1 = 0 → PreC B n σ t p st → ∃ N σ' p' st', vv X 175 7 [some (vP 1), some (vI (t : Int))] [] σ = some (none, σ') ∧ N ≤ 400 ∧ Fr [1, 4, 5, 6] [] σ σ' ∧ (∀ j, ¬ j = 6 → σ' 1 j = σ 1 j) ∧ DoneC B n σ' N p' st'
  | 0, _, _, _, _, _, h, _, _, _, _, _, _, _ => absurd h (by omega)
  | m + 1, t, σ, p, st, e, _, h2, h5, h6, hW, hB, h0, hP => by
    obtain ⟨s, e1, r1⟩ := c_blankL (X := X) (t := (t : Int)) (i := p t) hn (n - p t) 0 σ (by have := hP.2.1; omega) h5 h6 (fun j hj => absurd hj (Nat.not_lt_zero _))
    rw [h2] at r1
    have sn := r1.le hP.2.1
    generalize hσ1 : am_upd (am_upd σ 1 6 (s : Int)) 5 t (s : Int) = σ1
    have f1 : Fr [1, 4, 5, 6] [] σ σ1 := by rw [← hσ1]; exact (Fr.rf.upd rfl (by decide)).upd rfl (by decide)
    have c1 : σ1 1 = up (σ 1) 6 (s : Int) := by rw [← hσ1, un _ (show ¬ (1 : Nat) = 5 by decide), ue]
    have c5 : σ1 5 = up (σ 5) t (s : Int) := by rw [← hσ1, ue, un _ (show ¬ (5 : Nat) = 1 by decide)]
    have c4 : σ1 4 = σ 4 := by rw [← hσ1, un _ (show ¬ (4 : Nat) = 5 by decide), un _ (show ¬ (4 : Nat) = 1 by decide)]
    have c6 : σ1 6 = σ 6 := by rw [← hσ1, un _ (show ¬ (6 : Nat) = 5 by decide), un _ (show ¬ (6 : Nat) = 1 by decide)]
    have c2 : σ1 2 = B := by rw [f1.get 2 (by decide) rfl]; exact h2
    have head : vv X 175 7 [some (vP 1), some (vI (t : Int))] [] σ = (vcI X 229 [vP 1, vI (t : Int)] σ1).bind fun q1 => if q1.1 = 0 then some (none, am_upd q1.2 4 t q1.1) else if ¬ q1.1 = 1 then vv X 175 7 [some (vP 1), some (vI ((t + 1 : Nat) : Int))] [] (am_upd q1.2 4 t q1.1) else some (none, am_upd q1.2 4 t q1.1) := by
      rw [bq_175_7, if_neg (by omega), e1, bq_175_53, if_pos (by omega), tn_nat, ue, upa, if_pos rfl, hσ1]
      refine vq_bind fun q1 => ?_
      rw [ue, upa, if_pos rfl, w32_s1 (by omega), bq_175_93]
    have keep : ∀ (τ : am_Sg), (∀ j, j < t → τ 4 j = σ 4 j ∧ τ 5 j = σ 5 j ∧ τ 6 j = σ 6 j) → PreC B n τ t p (upN st t s) := fun τ h => hP.ag h (fun _ _ => rfl) (fun j hj => by unfold upN; rw [if_neg (by omega)])
    have st_t : upN st t s t = s := by unfold upN; rw [if_pos rfl]
    by_cases z : s = n
    · -- the end
      have e2 : vcI X 229 [vP 1, vI (t : Int)] σ1 = some (0, σ1) := by
        refine vI_of ((bq_229_0 X _ σ1).trans ?_) rfl
        rw [if_neg (by rw [c1, upa, upa, if_pos rfl, if_neg (by decide), h5]; omega)]
      refine ⟨t, am_upd σ1 4 t 0, p, upN st t s, ?_, by omega, f1.upd rfl (by decide), fun j hj => ?_, keep _ (fun j hj => ?_), ?_, ?_, Or.inl ⟨by rw [st_t]; exact z, by rw [ue, upa, if_pos rfl]⟩⟩
      · rw [head, e2, bsome]
        dsimp +instances only
        rw [if_pos rfl]
      · rw [un _ (show ¬ (1 : Nat) = 4 by decide), c1, upa, if_neg hj]
      · rw [ue, upa, if_neg (by omega), un _ (show ¬ (5 : Nat) = 4 by decide), un _ (show ¬ (6 : Nat) = 4 by decide), c5, upa, if_neg (by omega), c4, c6]
        exact ⟨rfl, rfl, rfl⟩
      · rw [un _ (show ¬ (5 : Nat) = 4 by decide), c5, upa, if_pos rfl, st_t]
      · rw [st_t]; exact r1
    · have sl : s < n := by omega
      obtain ⟨k, v, e', e2, hk⟩ := c_token (X := X) (σ := σ1) (t := t) (i := s) hn (by rw [c1, upa, if_neg (by decide)]; exact h5) (by rw [c1, upa, if_pos rfl]) sl (by omega) (fun w hw => by rw [f1.get 3 (by decide) rfl]; exact hW w hw) (fun j => by rw [f1.get 1005 (by decide) rfl]; exact hB j) (by rw [f1.get 1003 (by decide) rfl]; exact h0) (by rw [c2]; exact hr s sl)
      rw [c2] at hk
      have k0 := hk.k0
      have el := hk.le sl
      generalize hσ2 : am_upd (af σ1 t e' v) 4 t k = σ2
      have f2 : Fr [1, 4, 5, 6] [] σ σ2 := by rw [← hσ2]; exact ((f1.upd rfl (by decide)).upd rfl (by decide)).upd rfl (by decide)
      have d1 : σ2 1 = up (up (σ 1) 6 (s : Int)) 6 (e' : Int) := by
        rw [← hσ2, un _ (show ¬ (1 : Nat) = 4 by decide)]
        unfold af
        rw [un _ (show ¬ (1 : Nat) = 6 by decide), ue, c1]
      have d4 : σ2 4 = up (σ 4) t k := by
        rw [← hσ2, ue]
        unfold af
        rw [un _ (show ¬ (4 : Nat) = 6 by decide), un _ (show ¬ (4 : Nat) = 1 by decide), c4]
      have d5 : σ2 5 = up (σ 5) t (s : Int) := by
        rw [← hσ2, un _ (show ¬ (5 : Nat) = 4 by decide)]
        unfold af
        rw [un _ (show ¬ (5 : Nat) = 6 by decide), un _ (show ¬ (5 : Nat) = 1 by decide), c5]
      have d6 : σ2 6 = up (σ 6) t v := by
        rw [← hσ2, un _ (show ¬ (6 : Nat) = 4 by decide)]
        unfold af
        rw [ue, un _ (show ¬ (6 : Nat) = 1 by decide), c6]
      have d1' : ∀ j, ¬ j = 6 → σ2 1 j = σ 1 j := fun j hj => by rw [d1, upa, if_neg hj, upa, if_neg hj]
      have ag : ∀ j, j < t → σ2 4 j = σ 4 j ∧ σ2 5 j = σ 5 j ∧ σ2 6 j = σ 6 j := fun j hj => by
        rw [d4, d5, d6, upa, upa, upa, if_neg (by omega), if_neg (by omega), if_neg (by omega)]
        exact ⟨rfl, rfl, rfl⟩
      have t4 : σ2 4 t = k := by rw [d4, upa, if_pos rfl]
      have t5 : σ2 5 t = (s : Int) := by rw [d5, upa, if_pos rfl]
      have t6 : σ2 6 t = v := by rw [d6, upa, if_pos rfl]
      have done : (k = 1 ∨ t = 400) → DoneC B n σ2 t p (upN st t s) := fun q => ⟨keep _ ag, by rw [t5, st_t], by rw [st_t]; exact r1, Or.inr ⟨by rw [st_t]; exact sl, e', by rw [st_t, t4, t6]; exact hk, by rw [t4]; exact q⟩⟩
      have hd2 : vv X 175 7 [some (vP 1), some (vI (t : Int))] [] σ = if ¬ k = 1 then vv X 175 7 [some (vP 1), some (vI ((t + 1 : Nat) : Int))] [] σ2 else some (none, σ2) := by
        rw [head, e2, bsome]
        dsimp +instances only
        rw [if_neg k0, hσ2]
      by_cases k1 : k = 1
      · refine ⟨t, σ2, p, upN st t s, ?_, by omega, f2, d1', done (Or.inl k1)⟩
        rw [hd2, if_neg (fun q => q k1)]
      · by_cases t400 : t = 400
        · refine ⟨t, σ2, p, upN st t s, ?_, by omega, f2, d1', done (Or.inr t400)⟩
          rw [hd2, if_pos k1, bq_175_7, if_pos (by omega)]
        · obtain ⟨N, σ', p', st', q1, q2, q3, q4, q5⟩ := c_scanL hn hr m (t + 1) σ2 (upN p (t + 1) e') (upN st t s) (by omega) (by omega) (by rw [f2.get 2 (by decide) rfl]; exact h2) (by rw [d1' 5 (by decide)]; exact h5) (by rw [d1, upa, if_pos rfl]; unfold upN; rw [if_pos rfl]) (fun w hw => by rw [f2.get 3 (by decide) rfl]; exact hW w hw) (fun j => by rw [f2.get 1005 (by decide) rfl]; exact hB j) (by rw [f2.get 1003 (by decide) rfl]; exact h0) (by
            have K := keep σ2 ag
            refine ⟨?_, ?_, fun j hj => ?_⟩
            · unfold upN
              rw [if_neg (by omega)]
              exact K.1
            · unfold upN
              rw [if_pos rfl]
              exact el
            · by_cases w : j = t
              · subst w
                have pj : upN p (j + 1) e' j = p j := by unfold upN; rw [if_neg (by omega)]
                have pj1 : upN p (j + 1) e' (j + 1) = e' := by unfold upN; rw [if_pos rfl]
                rw [pj, pj1, st_t, t4, t5, t6]
                exact ⟨rfl, r1, sl, hk, k1⟩
              · have pj : upN p (t + 1) e' j = p j := by unfold upN; rw [if_neg (by omega)]
                have pj1 : upN p (t + 1) e' (j + 1) = p (j + 1) := by unfold upN; rw [if_neg (by omega)]
                rw [pj, pj1]
                exact K.2.2 j (by omega))
          refine ⟨N, σ', p', st', ?_, q2, f2.tr q3, fun j hj => by rw [q4 j hj, d1' j hj], q5⟩
          rw [hd2, if_pos k1]
          exact q1
end SS
