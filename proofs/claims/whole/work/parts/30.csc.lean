/-! THE CLASS: LAY, WHY NOT, SWALLOW, AN HOUR -/
theorem tl_at {σ T : am_Sg} (h : tl σ = T) {k : Nat} (hk : 7 ≤ k ∧ k < 27) : σ k = T k := by rw [← h, tl_in hk]
theorem cl6_bd (v : Int) : 0 ≤ cl6 v ∧ cl6 v ≤ 6 := by
  unfold cl6
  split
  · omega
  · split <;> omega
theorem bts_ok {T : am_Sg} {F : LF} (hF : FOk F) {sc : Nat → Int} {m g : Nat} {ah : Int} : BOk T (bts T F sc m g ah) 6 := ⟨fun d _ => by
  unfold bts
  split
  · exact hF _ _ _
  · omega, fun d h _ => by
  unfold bts
  rw [if_neg (by omega)]⟩
theorem rs_rs (f : Nat → Int) : rs (rs f) = rs f := rs_ext fun j h => rs_in h
theorem rs_hi {f : Nat → Int} {j : Nat} (h : ¬ j < 46) : rs f j = 0 := if_neg h
section CSC
variable {X m g d : Nat} {σ T : am_Sg} {F : LF} {b : Nat → Int}
theorem c_lay90_49_53 (s2 : Int) (σ : am_Sg) : ∃ σ1, vv X 106 90 [some (vP 57), some (vP 49), none, some (vI (g : Int)), none, some (vP 53), none, none] [vI s2, vI 6, vP 58] σ = vv X 106 99 [some (vP 57), some (vP 49), none, some (vI (g : Int)), none, some (vP 53), some (vI 0), none] [] σ1 ∧ Fr [53, 54, 58, 59] [] σ σ1 ∧ PL T σ1 53 (fun _ => 0) ∧ σ1 58 = up (σ 58) 6 s2 := by
  rw [bq_106a_90, if_pos (by decide)]
  obtain ⟨σ1, e1, f1, p1⟩ := c_clear53 (X := X) (T := T) (σ := am_upd σ 58 (Int.toNat 6) s2)
  rw [e1, bsome]
  refine ⟨σ1, rfl, ((Fr.rf.upd rfl (by decide)).tr (f1.mono rfl rfl)), p1, ?_⟩
  rw [f1.get 58 (by decide) rfl, ue]
  rfl
theorem c_lay_49_53 (H : TOk T) (hT : tl σ = T) (hL : LC X T F) (hF : FOk F) (hm : m < nM T) (hg : g < 2) (more : Int) : ∃ σ', vcV X 106 [vP 57, vP 49, vI (m : Int), vI (g : Int), vI more, vP 53] σ = some σ' ∧ Fr [53, 54, 58, 59] [] σ σ' ∧ PL T σ' 53 (bts T F (rs (σ 50)) m g (w32 (σ 50 (42 + g) + more))) := by
  have h8 := H.m8
  have h4 := H.d4
  have e16 := tl_at hT (k := 16) (by omega)
  have e13 := tl_at hT (k := 13) (by omega)
  have em : rs (σ 50) m = σ 50 m := rs_in (by omega)
  have e44 : rs (σ 50) 44 = σ 50 44 := rs_in (by omega)
  have e8 : rs (σ 50) (8 + m) = σ 50 (8 + m) := rs_in (by omega)
  have A : ∃ σ1, vv X 106 0 [some (vP 57), some (vP 49), some (vI (m : Int)), some (vI (g : Int)), some (vI more), some (vP 53), none, none] [] σ = vv X 106 99 [some (vP 57), some (vP 49), none, some (vI (g : Int)), none, some (vP 53), some (vI 0), none] [] σ1 ∧ Fr [53, 54, 58, 59] [] σ σ1 ∧ PL T σ1 53 (fun _ => 0) ∧ ∀ j, j < 7 → ¬ j = 5 → σ1 58 j = vr T (rs (σ 50)) m (w32 (σ 50 (42 + g) + more)) 0 j := by
    rw [bq_106a_0, g_hourA, bsome]
    dsimp +instances only
    rw [if_pos (by omega), bq_106a_25, if_pos (by omega), g_fullA (by omega), bsome]
    dsimp +instances only
    rw [g_fullA (by omega), bsome]
    dsimp +instances only
    rw [g_aheadA hg, bsome]
    dsimp +instances only
    rw [g_sickA (by omega), bsome]
    dsimp +instances only
    have fin : ∀ (x y z u v q : Int), x = σ 50 44 → y = T 16 m → z = w32 (T 13 m - σ 50 m) → u = σ 50 m → v = w32 (σ 50 (42 + g) + more) → (q = if 0 < σ 50 (8 + m) then 1 else 0) → ∀ j, j < 7 → ¬ j = 5 → up (up (up (up (up (up (σ 58) 0 x) 1 y) 2 z) 3 u) 4 v) 6 q j = vr T (rs (σ 50)) m (w32 (σ 50 (42 + g) + more)) 0 j := by
      intro x y z u v q hx hy hz hu hv hq j hj hj5
      unfold vr
      rw [e44, em, e8, ← hx, ← hy, ← hz, ← hu, ← hv, ← hq]
      rcases (show j = 0 ∨ j = 1 ∨ j = 2 ∨ j = 3 ∨ j = 4 ∨ j = 6 by omega) with e | e | e | e | e | e <;> subst e <;> simp [upa]
    simp only [un _ (show ¬ (50 : Nat) = 58 by decide)]
    by_cases hs : σ 50 (8 + m) ≤ 0
    · rw [if_pos hs]
      refine (c_lay90_49_53 0 _).imp fun σ1 h => ⟨h.1, ?_, h.2.2.1, ?_⟩
      · exact (((((Fr.rf.upd rfl (by decide)).upd rfl (by decide)).upd rfl (by decide)).upd rfl (by decide)).upd rfl (by decide)).tr h.2.1
      · rw [h.2.2.2]
        simp only [ue]
        refine fin _ _ _ _ _ _ rfl ?_ ?_ ?_ rfl (by rw [if_neg (by omega)])
        · rw [tn_nat, e16]
        · rw [tn_nat, un _ (by decide), un _ (by decide), e13, Nat.zero_add]
        · rw [Nat.zero_add]
    · rw [if_neg hs]
      refine (c_lay90_49_53 1 _).imp fun σ1 h => ⟨h.1, ?_, h.2.2.1, ?_⟩
      · exact (((((Fr.rf.upd rfl (by decide)).upd rfl (by decide)).upd rfl (by decide)).upd rfl (by decide)).upd rfl (by decide)).tr h.2.1
      · rw [h.2.2.2]
        simp only [ue]
        refine fin _ _ _ _ _ _ rfl ?_ ?_ ?_ rfl (by rw [if_pos (by omega)])
        · rw [tn_nat, e16]
        · rw [tn_nat, un _ (by decide), un _ (by decide), e13, Nat.zero_add]
        · rw [Nat.zero_add]
  obtain ⟨σ1, eA, fA, pA, vA⟩ := A
  generalize hah : w32 (σ 50 (42 + g) + more) = ah at vA ⊢
  have B := lp (fun i (s : am_Sg) => vv X 106 99 [some (vP 57), some (vP 49), none, some (vI (g : Int)), none, some (vP 53), some (vI (i : Int)), none] [] s) (nD T) (fun i s => Fr [53, 54, 58, 59] [] σ s ∧ PL T s 53 (fun d => if d < i then bts T F (rs (σ 50)) m g ah d else 0) ∧ ∀ j, j < 7 → ¬ j = 5 → s 58 j = vr T (rs (σ 50)) m ah 0 j) (fun i s hi hs => by
    obtain ⟨fs, ps, vs⟩ := hs
    have hTs : tl s = T := (tl_fr fs rfl).trans hT
    have d8 := tl_at hTs (k := 8) (by omega)
    have d25 := tl_at hTs (k := 25) (by omega)
    have esc : s 50 = σ 50 := fs.get 50 (by decide) rfl
    have e32 : rs (σ 50) (32 + i) = σ 50 (32 + i) := rs_in (by omega)
    have hbi : bts T F (rs (σ 50)) m g ah i = F g i (vr T (rs (σ 50)) m ah (σ 50 (32 + i))) := by
      unfold bts
      rw [if_pos hi, e32]
    show ∃ s', vv X 106 99 [some (vP 57), some (vP 49), none, some (vI (g : Int)), none, some (vP 53), some (vI (i : Int)), none] [] s = vv X 106 99 [some (vP 57), some (vP 49), none, some (vI (g : Int)), none, some (vP 53), some (vI ((i + 1 : Nat) : Int)), none] [] s' ∧ _
    rw [bq_106a_99, g_dishes, bsome]
    dsimp +instances only
    rw [d8, H.d0, if_neg (by omega), g_storeA (by omega), bsome]
    dsimp +instances only
    rw [ixm4 (by omega) (by omega), if_pos (by omega), tn_nat, d25]
    have hv : ∀ j, j < 7 → (am_upd s 58 5 (s 50 (32 + i))) 58 j = vr T (rs (σ 50)) m ah (σ 50 (32 + i)) j := by
      intro j hj
      rw [ue, upa, esc]
      by_cases h5 : j = 5
      · subst h5
        rfl
      · rw [if_neg h5, vs j hj h5]
        unfold vr
        simp only [h5, if_false]
    rcases hL.1 g i hg hi with ⟨h1, h2⟩ | ⟨h1, h2⟩
    · rw [if_pos h1, bq_106a_166, w32_s1 (by omega)]
      refine ⟨_, rfl, fs.upd rfl (by decide), ?_, ?_⟩
      · have : (fun d => if d < i + 1 then bts T F (rs (σ 50)) m g ah d else 0) = (fun d => if d < i then bts T F (rs (σ 50)) m g ah d else 0) := by
          funext d
          by_cases y : d = i
          · subst y
            rw [if_pos (by omega), if_neg (by omega), hbi, h2]
          · by_cases z : d < i
            · rw [if_pos z, if_pos (by omega)]
            · rw [if_neg z, if_neg (by omega)]
        rw [this]
        exact ps.fr (un _ (by decide)) (un _ (by decide))
      · intro j hj h5
        rw [ue, upn h5]
        exact vs j hj h5
    · rw [if_neg (by omega)]
      obtain ⟨v, σv, ev, fv, hcl⟩ := h2 (am_upd s 58 5 (s 50 (32 + i))) ((un _ (by decide)).trans (tl_at hTs (by omega))) ((un _ (by decide)).trans (tl_at hTs (by omega)))
      rw [ev, bsome]
      dsimp +instances only
      have hvf : vf ((am_upd s 58 5 (s 50 (32 + i))) 58) = vr T (rs (σ 50)) m ah (σ 50 (32 + i)) := by
        funext j
        unfold vf
        by_cases hj : j < 7
        · rw [if_pos hj, hv j hj]
        · rw [if_neg hj]
          unfold vr
          rw [if_neg (by omega), if_neg (by omega), if_neg (by omega), if_neg (by omega), if_neg (by omega), if_neg (by omega), if_neg (by omega)]
      rw [hvf, ← hbi] at hcl
      have fsv : Fr [53, 54, 58, 59] [] σ σv := (fs.upd rfl (by decide)).tr (fv.mono rfl rfl)
      have bok : BOk T (fun d => if d < i then bts T F (rs (σ 50)) m g ah d else 0) 6 := by
        have hb := bts_ok (T := T) hF (sc := rs (σ 50)) (m := m) (g := g) (ah := ah)
        refine ⟨fun d hd => ?_, fun d h1 h2 => ?_⟩
        · show 0 ≤ (if d < i then _ else (0:Int)) ∧ (if d < i then _ else (0:Int)) ≤ 6
          split
          · exact hb.1 d hd
          · omega
        · show (if d < i then _ else (0:Int)) = 0
          rw [if_neg (by omega)]
      obtain ⟨σw, ew, fw, pw⟩ := c_add53 (X := X) (x := if v < 6 then v else 6) H ((tl_fr fsv rfl).trans hT) (ps.fr ((fv.get 53 (by decide) rfl).trans (un _ (by decide))) ((fv.get 54 (by decide) rfl).trans (un _ (by decide)))) bok (by split <;> omega) (show i < 4 by omega) (Or.inl hi)
      rw [ew, bsome, bq_106a_166, w32_s1 (by omega)]
      refine ⟨_, rfl, fsv.tr (fw.mono rfl rfl), ?_, ?_⟩
      · have : (fun d => if d < i + 1 then bts T F (rs (σ 50)) m g ah d else 0) = (if (if v < 6 then v else 6) ≤ 0 then (fun d => if d < i then bts T F (rs (σ 50)) m g ah d else 0) else up (fun d => if d < i then bts T F (rs (σ 50)) m g ah d else 0) i ((fun d => if d < i then bts T F (rs (σ 50)) m g ah d else 0) i + (if v < 6 then v else 6))) := by
          funext d
          unfold cl6 at hcl
          by_cases x0 : v ≤ 0
          · rw [if_pos x0] at hcl
            rw [if_pos (show (if v < 6 then v else 6) ≤ 0 by rw [if_pos (by omega)]; exact x0)]
            by_cases y : d = i
            · subst y
              rw [if_pos (by omega), if_neg (by omega), hcl]
            · by_cases z : d < i
              · rw [if_pos z, if_pos (by omega)]
              · rw [if_neg z, if_neg (by omega)]
          · rw [if_neg x0] at hcl
            rw [if_neg (show ¬ (if v < 6 then v else 6) ≤ 0 by split <;> omega), upa]
            by_cases y : d = i
            · subst y
              rw [if_pos (by omega), if_pos rfl, ← hcl]
              dsimp only
              rw [if_neg (Nat.lt_irrefl _), Int.zero_add]
            · rw [if_neg y]
              by_cases z : d < i
              · rw [if_pos z, if_pos (by omega)]
              · rw [if_neg z, if_neg (by omega)]
        rw [this]
        exact pw
      · intro j hj h5
        rw [fw.get 58 (by decide) rfl, fv.get 58 (by decide) rfl, ue, upn h5]
        exact vs j hj h5) (nD T) 0 σ1 (by omega) ⟨fA, by
      have : (fun d => if d < 0 then bts T F (rs (σ 50)) m g ah d else 0) = (fun _ => 0) := by
        funext d
        rw [if_neg (by omega)]
      rw [this]
      exact pA, vA⟩
  obtain ⟨s, e, fs, ps, -⟩ := B
  have hTs : tl s = T := (tl_fr fs rfl).trans hT
  refine ⟨s, vV_of (eA.trans (e.trans ?_)) rfl, fs, ?_⟩
  · show vv X 106 99 [some (vP 57), some (vP 49), none, some (vI (g : Int)), none, some (vP 53), some (vI (nD T : Int)), none] [] s = _
    rw [bq_106a_99, g_dishes, bsome]
    dsimp +instances only
    rw [tl_at hTs (by omega), H.d0, if_pos (Int.le_refl _)]
  · have : bts T F (rs (σ 50)) m g ah = (fun d => if d < nD T then bts T F (rs (σ 50)) m g ah d else 0) := by
      funext d
      unfold bts
      by_cases y : d < nD T
      · rw [if_pos y, if_pos y]
      · rw [if_neg y, if_neg y]
    rw [this]
    exact ps
theorem c_lay90_51_53 (s2 : Int) (σ : am_Sg) : ∃ σ1, vv X 106 90 [some (vP 57), some (vP 51), none, some (vI (g : Int)), none, some (vP 53), none, none] [vI s2, vI 6, vP 58] σ = vv X 106 99 [some (vP 57), some (vP 51), none, some (vI (g : Int)), none, some (vP 53), some (vI 0), none] [] σ1 ∧ Fr [53, 54, 58, 59] [] σ σ1 ∧ PL T σ1 53 (fun _ => 0) ∧ σ1 58 = up (σ 58) 6 s2 := by
  rw [bq_106b_90, if_pos (by decide)]
  obtain ⟨σ1, e1, f1, p1⟩ := c_clear53 (X := X) (T := T) (σ := am_upd σ 58 (Int.toNat 6) s2)
  rw [e1, bsome]
  refine ⟨σ1, rfl, ((Fr.rf.upd rfl (by decide)).tr (f1.mono rfl rfl)), p1, ?_⟩
  rw [f1.get 58 (by decide) rfl, ue]
  rfl
theorem c_lay_51_53 (H : TOk T) (hT : tl σ = T) (hL : LC X T F) (hF : FOk F) (hm : m < nM T) (hg : g < 2) (more : Int) : ∃ σ', vcV X 106 [vP 57, vP 51, vI (m : Int), vI (g : Int), vI more, vP 53] σ = some σ' ∧ Fr [53, 54, 58, 59] [] σ σ' ∧ PL T σ' 53 (bts T F (rs (σ 52)) m g (w32 (σ 52 (42 + g) + more))) := by
  have h8 := H.m8
  have h4 := H.d4
  have e16 := tl_at hT (k := 16) (by omega)
  have e13 := tl_at hT (k := 13) (by omega)
  have em : rs (σ 52) m = σ 52 m := rs_in (by omega)
  have e44 : rs (σ 52) 44 = σ 52 44 := rs_in (by omega)
  have e8 : rs (σ 52) (8 + m) = σ 52 (8 + m) := rs_in (by omega)
  have A : ∃ σ1, vv X 106 0 [some (vP 57), some (vP 51), some (vI (m : Int)), some (vI (g : Int)), some (vI more), some (vP 53), none, none] [] σ = vv X 106 99 [some (vP 57), some (vP 51), none, some (vI (g : Int)), none, some (vP 53), some (vI 0), none] [] σ1 ∧ Fr [53, 54, 58, 59] [] σ σ1 ∧ PL T σ1 53 (fun _ => 0) ∧ ∀ j, j < 7 → ¬ j = 5 → σ1 58 j = vr T (rs (σ 52)) m (w32 (σ 52 (42 + g) + more)) 0 j := by
    rw [bq_106b_0, g_hourB, bsome]
    dsimp +instances only
    rw [if_pos (by omega), bq_106b_25, if_pos (by omega), g_fullB (by omega), bsome]
    dsimp +instances only
    rw [g_fullB (by omega), bsome]
    dsimp +instances only
    rw [g_aheadB hg, bsome]
    dsimp +instances only
    rw [g_sickB (by omega), bsome]
    dsimp +instances only
    have fin : ∀ (x y z u v q : Int), x = σ 52 44 → y = T 16 m → z = w32 (T 13 m - σ 52 m) → u = σ 52 m → v = w32 (σ 52 (42 + g) + more) → (q = if 0 < σ 52 (8 + m) then 1 else 0) → ∀ j, j < 7 → ¬ j = 5 → up (up (up (up (up (up (σ 58) 0 x) 1 y) 2 z) 3 u) 4 v) 6 q j = vr T (rs (σ 52)) m (w32 (σ 52 (42 + g) + more)) 0 j := by
      intro x y z u v q hx hy hz hu hv hq j hj hj5
      unfold vr
      rw [e44, em, e8, ← hx, ← hy, ← hz, ← hu, ← hv, ← hq]
      rcases (show j = 0 ∨ j = 1 ∨ j = 2 ∨ j = 3 ∨ j = 4 ∨ j = 6 by omega) with e | e | e | e | e | e <;> subst e <;> simp [upa]
    simp only [un _ (show ¬ (52 : Nat) = 58 by decide)]
    by_cases hs : σ 52 (8 + m) ≤ 0
    · rw [if_pos hs]
      refine (c_lay90_51_53 0 _).imp fun σ1 h => ⟨h.1, ?_, h.2.2.1, ?_⟩
      · exact (((((Fr.rf.upd rfl (by decide)).upd rfl (by decide)).upd rfl (by decide)).upd rfl (by decide)).upd rfl (by decide)).tr h.2.1
      · rw [h.2.2.2]
        simp only [ue]
        refine fin _ _ _ _ _ _ rfl ?_ ?_ ?_ rfl (by rw [if_neg (by omega)])
        · rw [tn_nat, e16]
        · rw [tn_nat, un _ (by decide), un _ (by decide), e13, Nat.zero_add]
        · rw [Nat.zero_add]
    · rw [if_neg hs]
      refine (c_lay90_51_53 1 _).imp fun σ1 h => ⟨h.1, ?_, h.2.2.1, ?_⟩
      · exact (((((Fr.rf.upd rfl (by decide)).upd rfl (by decide)).upd rfl (by decide)).upd rfl (by decide)).upd rfl (by decide)).tr h.2.1
      · rw [h.2.2.2]
        simp only [ue]
        refine fin _ _ _ _ _ _ rfl ?_ ?_ ?_ rfl (by rw [if_pos (by omega)])
        · rw [tn_nat, e16]
        · rw [tn_nat, un _ (by decide), un _ (by decide), e13, Nat.zero_add]
        · rw [Nat.zero_add]
  obtain ⟨σ1, eA, fA, pA, vA⟩ := A
  generalize hah : w32 (σ 52 (42 + g) + more) = ah at vA ⊢
  have B := lp (fun i (s : am_Sg) => vv X 106 99 [some (vP 57), some (vP 51), none, some (vI (g : Int)), none, some (vP 53), some (vI (i : Int)), none] [] s) (nD T) (fun i s => Fr [53, 54, 58, 59] [] σ s ∧ PL T s 53 (fun d => if d < i then bts T F (rs (σ 52)) m g ah d else 0) ∧ ∀ j, j < 7 → ¬ j = 5 → s 58 j = vr T (rs (σ 52)) m ah 0 j) (fun i s hi hs => by
    obtain ⟨fs, ps, vs⟩ := hs
    have hTs : tl s = T := (tl_fr fs rfl).trans hT
    have d8 := tl_at hTs (k := 8) (by omega)
    have d25 := tl_at hTs (k := 25) (by omega)
    have esc : s 52 = σ 52 := fs.get 52 (by decide) rfl
    have e32 : rs (σ 52) (32 + i) = σ 52 (32 + i) := rs_in (by omega)
    have hbi : bts T F (rs (σ 52)) m g ah i = F g i (vr T (rs (σ 52)) m ah (σ 52 (32 + i))) := by
      unfold bts
      rw [if_pos hi, e32]
    show ∃ s', vv X 106 99 [some (vP 57), some (vP 51), none, some (vI (g : Int)), none, some (vP 53), some (vI (i : Int)), none] [] s = vv X 106 99 [some (vP 57), some (vP 51), none, some (vI (g : Int)), none, some (vP 53), some (vI ((i + 1 : Nat) : Int)), none] [] s' ∧ _
    rw [bq_106b_99, g_dishes, bsome]
    dsimp +instances only
    rw [d8, H.d0, if_neg (by omega), g_storeB (by omega), bsome]
    dsimp +instances only
    rw [ixm4 (by omega) (by omega), if_pos (by omega), tn_nat, d25]
    have hv : ∀ j, j < 7 → (am_upd s 58 5 (s 52 (32 + i))) 58 j = vr T (rs (σ 52)) m ah (σ 52 (32 + i)) j := by
      intro j hj
      rw [ue, upa, esc]
      by_cases h5 : j = 5
      · subst h5
        rfl
      · rw [if_neg h5, vs j hj h5]
        unfold vr
        simp only [h5, if_false]
    rcases hL.1 g i hg hi with ⟨h1, h2⟩ | ⟨h1, h2⟩
    · rw [if_pos h1, bq_106b_166, w32_s1 (by omega)]
      refine ⟨_, rfl, fs.upd rfl (by decide), ?_, ?_⟩
      · have : (fun d => if d < i + 1 then bts T F (rs (σ 52)) m g ah d else 0) = (fun d => if d < i then bts T F (rs (σ 52)) m g ah d else 0) := by
          funext d
          by_cases y : d = i
          · subst y
            rw [if_pos (by omega), if_neg (by omega), hbi, h2]
          · by_cases z : d < i
            · rw [if_pos z, if_pos (by omega)]
            · rw [if_neg z, if_neg (by omega)]
        rw [this]
        exact ps.fr (un _ (by decide)) (un _ (by decide))
      · intro j hj h5
        rw [ue, upn h5]
        exact vs j hj h5
    · rw [if_neg (by omega)]
      obtain ⟨v, σv, ev, fv, hcl⟩ := h2 (am_upd s 58 5 (s 52 (32 + i))) ((un _ (by decide)).trans (tl_at hTs (by omega))) ((un _ (by decide)).trans (tl_at hTs (by omega)))
      rw [ev, bsome]
      dsimp +instances only
      have hvf : vf ((am_upd s 58 5 (s 52 (32 + i))) 58) = vr T (rs (σ 52)) m ah (σ 52 (32 + i)) := by
        funext j
        unfold vf
        by_cases hj : j < 7
        · rw [if_pos hj, hv j hj]
        · rw [if_neg hj]
          unfold vr
          rw [if_neg (by omega), if_neg (by omega), if_neg (by omega), if_neg (by omega), if_neg (by omega), if_neg (by omega), if_neg (by omega)]
      rw [hvf, ← hbi] at hcl
      have fsv : Fr [53, 54, 58, 59] [] σ σv := (fs.upd rfl (by decide)).tr (fv.mono rfl rfl)
      have bok : BOk T (fun d => if d < i then bts T F (rs (σ 52)) m g ah d else 0) 6 := by
        have hb := bts_ok (T := T) hF (sc := rs (σ 52)) (m := m) (g := g) (ah := ah)
        refine ⟨fun d hd => ?_, fun d h1 h2 => ?_⟩
        · show 0 ≤ (if d < i then _ else (0:Int)) ∧ (if d < i then _ else (0:Int)) ≤ 6
          split
          · exact hb.1 d hd
          · omega
        · show (if d < i then _ else (0:Int)) = 0
          rw [if_neg (by omega)]
      obtain ⟨σw, ew, fw, pw⟩ := c_add53 (X := X) (x := if v < 6 then v else 6) H ((tl_fr fsv rfl).trans hT) (ps.fr ((fv.get 53 (by decide) rfl).trans (un _ (by decide))) ((fv.get 54 (by decide) rfl).trans (un _ (by decide)))) bok (by split <;> omega) (show i < 4 by omega) (Or.inl hi)
      rw [ew, bsome, bq_106b_166, w32_s1 (by omega)]
      refine ⟨_, rfl, fsv.tr (fw.mono rfl rfl), ?_, ?_⟩
      · have : (fun d => if d < i + 1 then bts T F (rs (σ 52)) m g ah d else 0) = (if (if v < 6 then v else 6) ≤ 0 then (fun d => if d < i then bts T F (rs (σ 52)) m g ah d else 0) else up (fun d => if d < i then bts T F (rs (σ 52)) m g ah d else 0) i ((fun d => if d < i then bts T F (rs (σ 52)) m g ah d else 0) i + (if v < 6 then v else 6))) := by
          funext d
          unfold cl6 at hcl
          by_cases x0 : v ≤ 0
          · rw [if_pos x0] at hcl
            rw [if_pos (show (if v < 6 then v else 6) ≤ 0 by rw [if_pos (by omega)]; exact x0)]
            by_cases y : d = i
            · subst y
              rw [if_pos (by omega), if_neg (by omega), hcl]
            · by_cases z : d < i
              · rw [if_pos z, if_pos (by omega)]
              · rw [if_neg z, if_neg (by omega)]
          · rw [if_neg x0] at hcl
            rw [if_neg (show ¬ (if v < 6 then v else 6) ≤ 0 by split <;> omega), upa]
            by_cases y : d = i
            · subst y
              rw [if_pos (by omega), if_pos rfl, ← hcl]
              dsimp only
              rw [if_neg (Nat.lt_irrefl _), Int.zero_add]
            · rw [if_neg y]
              by_cases z : d < i
              · rw [if_pos z, if_pos (by omega)]
              · rw [if_neg z, if_neg (by omega)]
        rw [this]
        exact pw
      · intro j hj h5
        rw [fw.get 58 (by decide) rfl, fv.get 58 (by decide) rfl, ue, upn h5]
        exact vs j hj h5) (nD T) 0 σ1 (by omega) ⟨fA, by
      have : (fun d => if d < 0 then bts T F (rs (σ 52)) m g ah d else 0) = (fun _ => 0) := by
        funext d
        rw [if_neg (by omega)]
      rw [this]
      exact pA, vA⟩
  obtain ⟨s, e, fs, ps, -⟩ := B
  have hTs : tl s = T := (tl_fr fs rfl).trans hT
  refine ⟨s, vV_of (eA.trans (e.trans ?_)) rfl, fs, ?_⟩
  · show vv X 106 99 [some (vP 57), some (vP 51), none, some (vI (g : Int)), none, some (vP 53), some (vI (nD T : Int)), none] [] s = _
    rw [bq_106b_99, g_dishes, bsome]
    dsimp +instances only
    rw [tl_at hTs (by omega), H.d0, if_pos (Int.le_refl _)]
  · have : bts T F (rs (σ 52)) m g ah = (fun d => if d < nD T then bts T F (rs (σ 52)) m g ah d else 0) := by
      funext d
      unfold bts
      by_cases y : d < nD T
      · rw [if_pos y, if_pos y]
      · rw [if_neg y, if_neg y]
    rw [this]
    exact ps
theorem c_lay90_49_55 (s2 : Int) (σ : am_Sg) : ∃ σ1, vv X 106 90 [some (vP 57), some (vP 49), none, some (vI (g : Int)), none, some (vP 55), none, none] [vI s2, vI 6, vP 58] σ = vv X 106 99 [some (vP 57), some (vP 49), none, some (vI (g : Int)), none, some (vP 55), some (vI 0), none] [] σ1 ∧ Fr [55, 56, 58, 59] [] σ σ1 ∧ PL T σ1 55 (fun _ => 0) ∧ σ1 58 = up (σ 58) 6 s2 := by
  rw [bq_106c_90, if_pos (by decide)]
  obtain ⟨σ1, e1, f1, p1⟩ := c_clear55 (X := X) (T := T) (σ := am_upd σ 58 (Int.toNat 6) s2)
  rw [e1, bsome]
  refine ⟨σ1, rfl, ((Fr.rf.upd rfl (by decide)).tr (f1.mono rfl rfl)), p1, ?_⟩
  rw [f1.get 58 (by decide) rfl, ue]
  rfl
theorem c_lay_49_55 (H : TOk T) (hT : tl σ = T) (hL : LC X T F) (hF : FOk F) (hm : m < nM T) (hg : g < 2) (more : Int) : ∃ σ', vcV X 106 [vP 57, vP 49, vI (m : Int), vI (g : Int), vI more, vP 55] σ = some σ' ∧ Fr [55, 56, 58, 59] [] σ σ' ∧ PL T σ' 55 (bts T F (rs (σ 50)) m g (w32 (σ 50 (42 + g) + more))) := by
  have h8 := H.m8
  have h4 := H.d4
  have e16 := tl_at hT (k := 16) (by omega)
  have e13 := tl_at hT (k := 13) (by omega)
  have em : rs (σ 50) m = σ 50 m := rs_in (by omega)
  have e44 : rs (σ 50) 44 = σ 50 44 := rs_in (by omega)
  have e8 : rs (σ 50) (8 + m) = σ 50 (8 + m) := rs_in (by omega)
  have A : ∃ σ1, vv X 106 0 [some (vP 57), some (vP 49), some (vI (m : Int)), some (vI (g : Int)), some (vI more), some (vP 55), none, none] [] σ = vv X 106 99 [some (vP 57), some (vP 49), none, some (vI (g : Int)), none, some (vP 55), some (vI 0), none] [] σ1 ∧ Fr [55, 56, 58, 59] [] σ σ1 ∧ PL T σ1 55 (fun _ => 0) ∧ ∀ j, j < 7 → ¬ j = 5 → σ1 58 j = vr T (rs (σ 50)) m (w32 (σ 50 (42 + g) + more)) 0 j := by
    rw [bq_106c_0, g_hourA, bsome]
    dsimp +instances only
    rw [if_pos (by omega), bq_106c_25, if_pos (by omega), g_fullA (by omega), bsome]
    dsimp +instances only
    rw [g_fullA (by omega), bsome]
    dsimp +instances only
    rw [g_aheadA hg, bsome]
    dsimp +instances only
    rw [g_sickA (by omega), bsome]
    dsimp +instances only
    have fin : ∀ (x y z u v q : Int), x = σ 50 44 → y = T 16 m → z = w32 (T 13 m - σ 50 m) → u = σ 50 m → v = w32 (σ 50 (42 + g) + more) → (q = if 0 < σ 50 (8 + m) then 1 else 0) → ∀ j, j < 7 → ¬ j = 5 → up (up (up (up (up (up (σ 58) 0 x) 1 y) 2 z) 3 u) 4 v) 6 q j = vr T (rs (σ 50)) m (w32 (σ 50 (42 + g) + more)) 0 j := by
      intro x y z u v q hx hy hz hu hv hq j hj hj5
      unfold vr
      rw [e44, em, e8, ← hx, ← hy, ← hz, ← hu, ← hv, ← hq]
      rcases (show j = 0 ∨ j = 1 ∨ j = 2 ∨ j = 3 ∨ j = 4 ∨ j = 6 by omega) with e | e | e | e | e | e <;> subst e <;> simp [upa]
    simp only [un _ (show ¬ (50 : Nat) = 58 by decide)]
    by_cases hs : σ 50 (8 + m) ≤ 0
    · rw [if_pos hs]
      refine (c_lay90_49_55 0 _).imp fun σ1 h => ⟨h.1, ?_, h.2.2.1, ?_⟩
      · exact (((((Fr.rf.upd rfl (by decide)).upd rfl (by decide)).upd rfl (by decide)).upd rfl (by decide)).upd rfl (by decide)).tr h.2.1
      · rw [h.2.2.2]
        simp only [ue]
        refine fin _ _ _ _ _ _ rfl ?_ ?_ ?_ rfl (by rw [if_neg (by omega)])
        · rw [tn_nat, e16]
        · rw [tn_nat, un _ (by decide), un _ (by decide), e13, Nat.zero_add]
        · rw [Nat.zero_add]
    · rw [if_neg hs]
      refine (c_lay90_49_55 1 _).imp fun σ1 h => ⟨h.1, ?_, h.2.2.1, ?_⟩
      · exact (((((Fr.rf.upd rfl (by decide)).upd rfl (by decide)).upd rfl (by decide)).upd rfl (by decide)).upd rfl (by decide)).tr h.2.1
      · rw [h.2.2.2]
        simp only [ue]
        refine fin _ _ _ _ _ _ rfl ?_ ?_ ?_ rfl (by rw [if_pos (by omega)])
        · rw [tn_nat, e16]
        · rw [tn_nat, un _ (by decide), un _ (by decide), e13, Nat.zero_add]
        · rw [Nat.zero_add]
  obtain ⟨σ1, eA, fA, pA, vA⟩ := A
  generalize hah : w32 (σ 50 (42 + g) + more) = ah at vA ⊢
  have B := lp (fun i (s : am_Sg) => vv X 106 99 [some (vP 57), some (vP 49), none, some (vI (g : Int)), none, some (vP 55), some (vI (i : Int)), none] [] s) (nD T) (fun i s => Fr [55, 56, 58, 59] [] σ s ∧ PL T s 55 (fun d => if d < i then bts T F (rs (σ 50)) m g ah d else 0) ∧ ∀ j, j < 7 → ¬ j = 5 → s 58 j = vr T (rs (σ 50)) m ah 0 j) (fun i s hi hs => by
    obtain ⟨fs, ps, vs⟩ := hs
    have hTs : tl s = T := (tl_fr fs rfl).trans hT
    have d8 := tl_at hTs (k := 8) (by omega)
    have d25 := tl_at hTs (k := 25) (by omega)
    have esc : s 50 = σ 50 := fs.get 50 (by decide) rfl
    have e32 : rs (σ 50) (32 + i) = σ 50 (32 + i) := rs_in (by omega)
    have hbi : bts T F (rs (σ 50)) m g ah i = F g i (vr T (rs (σ 50)) m ah (σ 50 (32 + i))) := by
      unfold bts
      rw [if_pos hi, e32]
    show ∃ s', vv X 106 99 [some (vP 57), some (vP 49), none, some (vI (g : Int)), none, some (vP 55), some (vI (i : Int)), none] [] s = vv X 106 99 [some (vP 57), some (vP 49), none, some (vI (g : Int)), none, some (vP 55), some (vI ((i + 1 : Nat) : Int)), none] [] s' ∧ _
    rw [bq_106c_99, g_dishes, bsome]
    dsimp +instances only
    rw [d8, H.d0, if_neg (by omega), g_storeA (by omega), bsome]
    dsimp +instances only
    rw [ixm4 (by omega) (by omega), if_pos (by omega), tn_nat, d25]
    have hv : ∀ j, j < 7 → (am_upd s 58 5 (s 50 (32 + i))) 58 j = vr T (rs (σ 50)) m ah (σ 50 (32 + i)) j := by
      intro j hj
      rw [ue, upa, esc]
      by_cases h5 : j = 5
      · subst h5
        rfl
      · rw [if_neg h5, vs j hj h5]
        unfold vr
        simp only [h5, if_false]
    rcases hL.1 g i hg hi with ⟨h1, h2⟩ | ⟨h1, h2⟩
    · rw [if_pos h1, bq_106c_166, w32_s1 (by omega)]
      refine ⟨_, rfl, fs.upd rfl (by decide), ?_, ?_⟩
      · have : (fun d => if d < i + 1 then bts T F (rs (σ 50)) m g ah d else 0) = (fun d => if d < i then bts T F (rs (σ 50)) m g ah d else 0) := by
          funext d
          by_cases y : d = i
          · subst y
            rw [if_pos (by omega), if_neg (by omega), hbi, h2]
          · by_cases z : d < i
            · rw [if_pos z, if_pos (by omega)]
            · rw [if_neg z, if_neg (by omega)]
        rw [this]
        exact ps.fr (un _ (by decide)) (un _ (by decide))
      · intro j hj h5
        rw [ue, upn h5]
        exact vs j hj h5
    · rw [if_neg (by omega)]
      obtain ⟨v, σv, ev, fv, hcl⟩ := h2 (am_upd s 58 5 (s 50 (32 + i))) ((un _ (by decide)).trans (tl_at hTs (by omega))) ((un _ (by decide)).trans (tl_at hTs (by omega)))
      rw [ev, bsome]
      dsimp +instances only
      have hvf : vf ((am_upd s 58 5 (s 50 (32 + i))) 58) = vr T (rs (σ 50)) m ah (σ 50 (32 + i)) := by
        funext j
        unfold vf
        by_cases hj : j < 7
        · rw [if_pos hj, hv j hj]
        · rw [if_neg hj]
          unfold vr
          rw [if_neg (by omega), if_neg (by omega), if_neg (by omega), if_neg (by omega), if_neg (by omega), if_neg (by omega), if_neg (by omega)]
      rw [hvf, ← hbi] at hcl
      have fsv : Fr [55, 56, 58, 59] [] σ σv := (fs.upd rfl (by decide)).tr (fv.mono rfl rfl)
      have bok : BOk T (fun d => if d < i then bts T F (rs (σ 50)) m g ah d else 0) 6 := by
        have hb := bts_ok (T := T) hF (sc := rs (σ 50)) (m := m) (g := g) (ah := ah)
        refine ⟨fun d hd => ?_, fun d h1 h2 => ?_⟩
        · show 0 ≤ (if d < i then _ else (0:Int)) ∧ (if d < i then _ else (0:Int)) ≤ 6
          split
          · exact hb.1 d hd
          · omega
        · show (if d < i then _ else (0:Int)) = 0
          rw [if_neg (by omega)]
      obtain ⟨σw, ew, fw, pw⟩ := c_add55 (X := X) (x := if v < 6 then v else 6) H ((tl_fr fsv rfl).trans hT) (ps.fr ((fv.get 55 (by decide) rfl).trans (un _ (by decide))) ((fv.get 56 (by decide) rfl).trans (un _ (by decide)))) bok (by split <;> omega) (show i < 4 by omega) (Or.inl hi)
      rw [ew, bsome, bq_106c_166, w32_s1 (by omega)]
      refine ⟨_, rfl, fsv.tr (fw.mono rfl rfl), ?_, ?_⟩
      · have : (fun d => if d < i + 1 then bts T F (rs (σ 50)) m g ah d else 0) = (if (if v < 6 then v else 6) ≤ 0 then (fun d => if d < i then bts T F (rs (σ 50)) m g ah d else 0) else up (fun d => if d < i then bts T F (rs (σ 50)) m g ah d else 0) i ((fun d => if d < i then bts T F (rs (σ 50)) m g ah d else 0) i + (if v < 6 then v else 6))) := by
          funext d
          unfold cl6 at hcl
          by_cases x0 : v ≤ 0
          · rw [if_pos x0] at hcl
            rw [if_pos (show (if v < 6 then v else 6) ≤ 0 by rw [if_pos (by omega)]; exact x0)]
            by_cases y : d = i
            · subst y
              rw [if_pos (by omega), if_neg (by omega), hcl]
            · by_cases z : d < i
              · rw [if_pos z, if_pos (by omega)]
              · rw [if_neg z, if_neg (by omega)]
          · rw [if_neg x0] at hcl
            rw [if_neg (show ¬ (if v < 6 then v else 6) ≤ 0 by split <;> omega), upa]
            by_cases y : d = i
            · subst y
              rw [if_pos (by omega), if_pos rfl, ← hcl]
              dsimp only
              rw [if_neg (Nat.lt_irrefl _), Int.zero_add]
            · rw [if_neg y]
              by_cases z : d < i
              · rw [if_pos z, if_pos (by omega)]
              · rw [if_neg z, if_neg (by omega)]
        rw [this]
        exact pw
      · intro j hj h5
        rw [fw.get 58 (by decide) rfl, fv.get 58 (by decide) rfl, ue, upn h5]
        exact vs j hj h5) (nD T) 0 σ1 (by omega) ⟨fA, by
      have : (fun d => if d < 0 then bts T F (rs (σ 50)) m g ah d else 0) = (fun _ => 0) := by
        funext d
        rw [if_neg (by omega)]
      rw [this]
      exact pA, vA⟩
  obtain ⟨s, e, fs, ps, -⟩ := B
  have hTs : tl s = T := (tl_fr fs rfl).trans hT
  refine ⟨s, vV_of (eA.trans (e.trans ?_)) rfl, fs, ?_⟩
  · show vv X 106 99 [some (vP 57), some (vP 49), none, some (vI (g : Int)), none, some (vP 55), some (vI (nD T : Int)), none] [] s = _
    rw [bq_106c_99, g_dishes, bsome]
    dsimp +instances only
    rw [tl_at hTs (by omega), H.d0, if_pos (Int.le_refl _)]
  · have : bts T F (rs (σ 50)) m g ah = (fun d => if d < nD T then bts T F (rs (σ 50)) m g ah d else 0) := by
      funext d
      unfold bts
      by_cases y : d < nD T
      · rw [if_pos y, if_pos y]
      · rw [if_neg y, if_neg y]
    rw [this]
    exact ps
theorem c_lay90_51_55 (s2 : Int) (σ : am_Sg) : ∃ σ1, vv X 106 90 [some (vP 57), some (vP 51), none, some (vI (g : Int)), none, some (vP 55), none, none] [vI s2, vI 6, vP 58] σ = vv X 106 99 [some (vP 57), some (vP 51), none, some (vI (g : Int)), none, some (vP 55), some (vI 0), none] [] σ1 ∧ Fr [55, 56, 58, 59] [] σ σ1 ∧ PL T σ1 55 (fun _ => 0) ∧ σ1 58 = up (σ 58) 6 s2 := by
  rw [bq_106d_90, if_pos (by decide)]
  obtain ⟨σ1, e1, f1, p1⟩ := c_clear55 (X := X) (T := T) (σ := am_upd σ 58 (Int.toNat 6) s2)
  rw [e1, bsome]
  refine ⟨σ1, rfl, ((Fr.rf.upd rfl (by decide)).tr (f1.mono rfl rfl)), p1, ?_⟩
  rw [f1.get 58 (by decide) rfl, ue]
  rfl
theorem c_lay_51_55 (H : TOk T) (hT : tl σ = T) (hL : LC X T F) (hF : FOk F) (hm : m < nM T) (hg : g < 2) (more : Int) : ∃ σ', vcV X 106 [vP 57, vP 51, vI (m : Int), vI (g : Int), vI more, vP 55] σ = some σ' ∧ Fr [55, 56, 58, 59] [] σ σ' ∧ PL T σ' 55 (bts T F (rs (σ 52)) m g (w32 (σ 52 (42 + g) + more))) := by
  have h8 := H.m8
  have h4 := H.d4
  have e16 := tl_at hT (k := 16) (by omega)
  have e13 := tl_at hT (k := 13) (by omega)
  have em : rs (σ 52) m = σ 52 m := rs_in (by omega)
  have e44 : rs (σ 52) 44 = σ 52 44 := rs_in (by omega)
  have e8 : rs (σ 52) (8 + m) = σ 52 (8 + m) := rs_in (by omega)
  have A : ∃ σ1, vv X 106 0 [some (vP 57), some (vP 51), some (vI (m : Int)), some (vI (g : Int)), some (vI more), some (vP 55), none, none] [] σ = vv X 106 99 [some (vP 57), some (vP 51), none, some (vI (g : Int)), none, some (vP 55), some (vI 0), none] [] σ1 ∧ Fr [55, 56, 58, 59] [] σ σ1 ∧ PL T σ1 55 (fun _ => 0) ∧ ∀ j, j < 7 → ¬ j = 5 → σ1 58 j = vr T (rs (σ 52)) m (w32 (σ 52 (42 + g) + more)) 0 j := by
    rw [bq_106d_0, g_hourB, bsome]
    dsimp +instances only
    rw [if_pos (by omega), bq_106d_25, if_pos (by omega), g_fullB (by omega), bsome]
    dsimp +instances only
    rw [g_fullB (by omega), bsome]
    dsimp +instances only
    rw [g_aheadB hg, bsome]
    dsimp +instances only
    rw [g_sickB (by omega), bsome]
    dsimp +instances only
    have fin : ∀ (x y z u v q : Int), x = σ 52 44 → y = T 16 m → z = w32 (T 13 m - σ 52 m) → u = σ 52 m → v = w32 (σ 52 (42 + g) + more) → (q = if 0 < σ 52 (8 + m) then 1 else 0) → ∀ j, j < 7 → ¬ j = 5 → up (up (up (up (up (up (σ 58) 0 x) 1 y) 2 z) 3 u) 4 v) 6 q j = vr T (rs (σ 52)) m (w32 (σ 52 (42 + g) + more)) 0 j := by
      intro x y z u v q hx hy hz hu hv hq j hj hj5
      unfold vr
      rw [e44, em, e8, ← hx, ← hy, ← hz, ← hu, ← hv, ← hq]
      rcases (show j = 0 ∨ j = 1 ∨ j = 2 ∨ j = 3 ∨ j = 4 ∨ j = 6 by omega) with e | e | e | e | e | e <;> subst e <;> simp [upa]
    simp only [un _ (show ¬ (52 : Nat) = 58 by decide)]
    by_cases hs : σ 52 (8 + m) ≤ 0
    · rw [if_pos hs]
      refine (c_lay90_51_55 0 _).imp fun σ1 h => ⟨h.1, ?_, h.2.2.1, ?_⟩
      · exact (((((Fr.rf.upd rfl (by decide)).upd rfl (by decide)).upd rfl (by decide)).upd rfl (by decide)).upd rfl (by decide)).tr h.2.1
      · rw [h.2.2.2]
        simp only [ue]
        refine fin _ _ _ _ _ _ rfl ?_ ?_ ?_ rfl (by rw [if_neg (by omega)])
        · rw [tn_nat, e16]
        · rw [tn_nat, un _ (by decide), un _ (by decide), e13, Nat.zero_add]
        · rw [Nat.zero_add]
    · rw [if_neg hs]
      refine (c_lay90_51_55 1 _).imp fun σ1 h => ⟨h.1, ?_, h.2.2.1, ?_⟩
      · exact (((((Fr.rf.upd rfl (by decide)).upd rfl (by decide)).upd rfl (by decide)).upd rfl (by decide)).upd rfl (by decide)).tr h.2.1
      · rw [h.2.2.2]
        simp only [ue]
        refine fin _ _ _ _ _ _ rfl ?_ ?_ ?_ rfl (by rw [if_pos (by omega)])
        · rw [tn_nat, e16]
        · rw [tn_nat, un _ (by decide), un _ (by decide), e13, Nat.zero_add]
        · rw [Nat.zero_add]
  obtain ⟨σ1, eA, fA, pA, vA⟩ := A
  generalize hah : w32 (σ 52 (42 + g) + more) = ah at vA ⊢
  have B := lp (fun i (s : am_Sg) => vv X 106 99 [some (vP 57), some (vP 51), none, some (vI (g : Int)), none, some (vP 55), some (vI (i : Int)), none] [] s) (nD T) (fun i s => Fr [55, 56, 58, 59] [] σ s ∧ PL T s 55 (fun d => if d < i then bts T F (rs (σ 52)) m g ah d else 0) ∧ ∀ j, j < 7 → ¬ j = 5 → s 58 j = vr T (rs (σ 52)) m ah 0 j) (fun i s hi hs => by
    obtain ⟨fs, ps, vs⟩ := hs
    have hTs : tl s = T := (tl_fr fs rfl).trans hT
    have d8 := tl_at hTs (k := 8) (by omega)
    have d25 := tl_at hTs (k := 25) (by omega)
    have esc : s 52 = σ 52 := fs.get 52 (by decide) rfl
    have e32 : rs (σ 52) (32 + i) = σ 52 (32 + i) := rs_in (by omega)
    have hbi : bts T F (rs (σ 52)) m g ah i = F g i (vr T (rs (σ 52)) m ah (σ 52 (32 + i))) := by
      unfold bts
      rw [if_pos hi, e32]
    show ∃ s', vv X 106 99 [some (vP 57), some (vP 51), none, some (vI (g : Int)), none, some (vP 55), some (vI (i : Int)), none] [] s = vv X 106 99 [some (vP 57), some (vP 51), none, some (vI (g : Int)), none, some (vP 55), some (vI ((i + 1 : Nat) : Int)), none] [] s' ∧ _
    rw [bq_106d_99, g_dishes, bsome]
    dsimp +instances only
    rw [d8, H.d0, if_neg (by omega), g_storeB (by omega), bsome]
    dsimp +instances only
    rw [ixm4 (by omega) (by omega), if_pos (by omega), tn_nat, d25]
    have hv : ∀ j, j < 7 → (am_upd s 58 5 (s 52 (32 + i))) 58 j = vr T (rs (σ 52)) m ah (σ 52 (32 + i)) j := by
      intro j hj
      rw [ue, upa, esc]
      by_cases h5 : j = 5
      · subst h5
        rfl
      · rw [if_neg h5, vs j hj h5]
        unfold vr
        simp only [h5, if_false]
    rcases hL.1 g i hg hi with ⟨h1, h2⟩ | ⟨h1, h2⟩
    · rw [if_pos h1, bq_106d_166, w32_s1 (by omega)]
      refine ⟨_, rfl, fs.upd rfl (by decide), ?_, ?_⟩
      · have : (fun d => if d < i + 1 then bts T F (rs (σ 52)) m g ah d else 0) = (fun d => if d < i then bts T F (rs (σ 52)) m g ah d else 0) := by
          funext d
          by_cases y : d = i
          · subst y
            rw [if_pos (by omega), if_neg (by omega), hbi, h2]
          · by_cases z : d < i
            · rw [if_pos z, if_pos (by omega)]
            · rw [if_neg z, if_neg (by omega)]
        rw [this]
        exact ps.fr (un _ (by decide)) (un _ (by decide))
      · intro j hj h5
        rw [ue, upn h5]
        exact vs j hj h5
    · rw [if_neg (by omega)]
      obtain ⟨v, σv, ev, fv, hcl⟩ := h2 (am_upd s 58 5 (s 52 (32 + i))) ((un _ (by decide)).trans (tl_at hTs (by omega))) ((un _ (by decide)).trans (tl_at hTs (by omega)))
      rw [ev, bsome]
      dsimp +instances only
      have hvf : vf ((am_upd s 58 5 (s 52 (32 + i))) 58) = vr T (rs (σ 52)) m ah (σ 52 (32 + i)) := by
        funext j
        unfold vf
        by_cases hj : j < 7
        · rw [if_pos hj, hv j hj]
        · rw [if_neg hj]
          unfold vr
          rw [if_neg (by omega), if_neg (by omega), if_neg (by omega), if_neg (by omega), if_neg (by omega), if_neg (by omega), if_neg (by omega)]
      rw [hvf, ← hbi] at hcl
      have fsv : Fr [55, 56, 58, 59] [] σ σv := (fs.upd rfl (by decide)).tr (fv.mono rfl rfl)
      have bok : BOk T (fun d => if d < i then bts T F (rs (σ 52)) m g ah d else 0) 6 := by
        have hb := bts_ok (T := T) hF (sc := rs (σ 52)) (m := m) (g := g) (ah := ah)
        refine ⟨fun d hd => ?_, fun d h1 h2 => ?_⟩
        · show 0 ≤ (if d < i then _ else (0:Int)) ∧ (if d < i then _ else (0:Int)) ≤ 6
          split
          · exact hb.1 d hd
          · omega
        · show (if d < i then _ else (0:Int)) = 0
          rw [if_neg (by omega)]
      obtain ⟨σw, ew, fw, pw⟩ := c_add55 (X := X) (x := if v < 6 then v else 6) H ((tl_fr fsv rfl).trans hT) (ps.fr ((fv.get 55 (by decide) rfl).trans (un _ (by decide))) ((fv.get 56 (by decide) rfl).trans (un _ (by decide)))) bok (by split <;> omega) (show i < 4 by omega) (Or.inl hi)
      rw [ew, bsome, bq_106d_166, w32_s1 (by omega)]
      refine ⟨_, rfl, fsv.tr (fw.mono rfl rfl), ?_, ?_⟩
      · have : (fun d => if d < i + 1 then bts T F (rs (σ 52)) m g ah d else 0) = (if (if v < 6 then v else 6) ≤ 0 then (fun d => if d < i then bts T F (rs (σ 52)) m g ah d else 0) else up (fun d => if d < i then bts T F (rs (σ 52)) m g ah d else 0) i ((fun d => if d < i then bts T F (rs (σ 52)) m g ah d else 0) i + (if v < 6 then v else 6))) := by
          funext d
          unfold cl6 at hcl
          by_cases x0 : v ≤ 0
          · rw [if_pos x0] at hcl
            rw [if_pos (show (if v < 6 then v else 6) ≤ 0 by rw [if_pos (by omega)]; exact x0)]
            by_cases y : d = i
            · subst y
              rw [if_pos (by omega), if_neg (by omega), hcl]
            · by_cases z : d < i
              · rw [if_pos z, if_pos (by omega)]
              · rw [if_neg z, if_neg (by omega)]
          · rw [if_neg x0] at hcl
            rw [if_neg (show ¬ (if v < 6 then v else 6) ≤ 0 by split <;> omega), upa]
            by_cases y : d = i
            · subst y
              rw [if_pos (by omega), if_pos rfl, ← hcl]
              dsimp only
              rw [if_neg (Nat.lt_irrefl _), Int.zero_add]
            · rw [if_neg y]
              by_cases z : d < i
              · rw [if_pos z, if_pos (by omega)]
              · rw [if_neg z, if_neg (by omega)]
        rw [this]
        exact pw
      · intro j hj h5
        rw [fw.get 58 (by decide) rfl, fv.get 58 (by decide) rfl, ue, upn h5]
        exact vs j hj h5) (nD T) 0 σ1 (by omega) ⟨fA, by
      have : (fun d => if d < 0 then bts T F (rs (σ 52)) m g ah d else 0) = (fun _ => 0) := by
        funext d
        rw [if_neg (by omega)]
      rw [this]
      exact pA, vA⟩
  obtain ⟨s, e, fs, ps, -⟩ := B
  have hTs : tl s = T := (tl_fr fs rfl).trans hT
  refine ⟨s, vV_of (eA.trans (e.trans ?_)) rfl, fs, ?_⟩
  · show vv X 106 99 [some (vP 57), some (vP 51), none, some (vI (g : Int)), none, some (vP 55), some (vI (nD T : Int)), none] [] s = _
    rw [bq_106d_99, g_dishes, bsome]
    dsimp +instances only
    rw [tl_at hTs (by omega), H.d0, if_pos (Int.le_refl _)]
  · have : bts T F (rs (σ 52)) m g ah = (fun d => if d < nD T then bts T F (rs (σ 52)) m g ah d else 0) := by
      funext d
      unfold bts
      by_cases y : d < nD T
      · rw [if_pos y, if_pos y]
      · rw [if_neg y, if_neg y]
    rw [this]
    exact ps
theorem c_fast_49 (H : TOk T) (hT : tl σ = T) (hm : m < nM T) (h0 : 0 ≤ σ 50 44) : vcI X 202 [vP 57, vP 49, vI (m : Int)] σ = some (if bt1 (T 18 m) (σ 50 44).toNat = 0 then 0 else 1, σ) := vI_of ((bq_202a_0 X _ σ).trans (by
  have h8 := H.m8
  rw [if_pos (by omega), g_hourA, bsome]
  dsimp +instances only
  rw [tn_nat, tl_at hT (k := 18) (by omega)]
  have e : bt1 (T 18 m) (σ 50 44).toNat = am_and (am_shr (T 18 m) (σ 50 44)) 1 := by
    unfold bt1
    rw [show ((σ 50 44).toNat : Int) = σ 50 44 by omega]
  rw [e, bq_202a_24, bq_202a_24, if_pos okZ0, if_pos okZ1]
  by_cases z : am_and (am_shr (T 18 m) (σ 50 44)) 1 = 0
  · rw [if_pos z, if_pos z]
  · rw [if_neg z, if_neg z])) rfl
theorem c_fast_51 (H : TOk T) (hT : tl σ = T) (hm : m < nM T) (h0 : 0 ≤ σ 52 44) : vcI X 202 [vP 57, vP 51, vI (m : Int)] σ = some (if bt1 (T 18 m) (σ 52 44).toNat = 0 then 0 else 1, σ) := vI_of ((bq_202b_0 X _ σ).trans (by
  have h8 := H.m8
  rw [if_pos (by omega), g_hourB, bsome]
  dsimp +instances only
  rw [tn_nat, tl_at hT (k := 18) (by omega)]
  have e : bt1 (T 18 m) (σ 52 44).toNat = am_and (am_shr (T 18 m) (σ 52 44)) 1 := by
    unfold bt1
    rw [show ((σ 52 44).toNat : Int) = σ 52 44 by omega]
  rw [e, bq_202b_24, bq_202b_24, if_pos okZ0, if_pos okZ1]
  by_cases z : am_and (am_shr (T 18 m) (σ 52 44)) 1 = 0
  · rw [if_pos z, if_pos z]
  · rw [if_neg z, if_neg z])) rfl
theorem c_stores_49_53 (H : TOk T) (S : ScOk T (rs (σ 50))) (hp : PL T σ 53 b) (hb : BOk T b 12) : vcI X 123 [vP 57, vP 49, vP 53] σ = some (@ite _ (storesS T (rs (σ 50)) b) (Classical.propDecidable _) 1 0, σ) := by
  have h4 := H.d4
  refine vI_of ((bq_123a_0 X σ).trans ?_) rfl
  rcases lq (fun i (_ : Unit) => vv X 123 2 [none, some (vP 49), some (vP 53), some (vI (i : Int))] [] σ) 4 (fun i _ => ∀ d, d < i → b d ≤ σ 50 (32 + d)) (fun r => r = (some (vI 0), σ) ∧ ¬ storesS T (rs (σ 50)) b) (fun i _ hi ha => by
    show (∃ s', vv X 123 2 [none, some (vP 49), some (vP 53), some (vI (i : Int))] [] σ = _ ∧ _) ∨ ∃ r, vv X 123 2 [none, some (vP 49), some (vP 53), some (vI (i : Int))] [] σ = some r ∧ _
    rw [bq_123a_2, if_neg (by omega), if_pos (by omega), g_storeA (by omega), bsome]
    dsimp +instances only
    rw [w32_s1 (by omega), tn_nat, show σ 54 i = b i from hp.at (by omega)]
    by_cases z : b i ≤ σ 50 (32 + i)
    · rw [if_pos z]
      exact Or.inl ⟨(), rfl, fun d hd => by
        by_cases y : d = i
        · rw [y]; exact z
        · exact ha d (by omega)⟩
    · rw [if_neg z]
      refine Or.inr ⟨_, rfl, rfl, fun y => z ?_⟩
      by_cases hn : i < nD T
      · have := y i hn
        rw [rs_in (by omega)] at this
        exact this
      · have := S.2.1 i hi
        rw [rs_in (by omega)] at this
        rw [hb.2 i (by omega) hi]
        omega) 4 0 () (by omega) (fun d hd => absurd hd (Nat.not_lt_zero d)) with ⟨s, e, hs⟩ | ⟨r, e, h1, h2⟩
  · refine Eq.trans e ?_
    show vv X 123 2 [none, some (vP 49), some (vP 53), some (vI 4)] [] σ = _
    rw [bq_123a_2, if_pos (Int.le_refl _), if_pos (show storesS T (rs (σ 50)) b from fun d hd => by rw [rs_in (by omega)]; exact hs d (by omega))]
  · refine Eq.trans e ?_
    rw [h1, if_neg h2]
theorem c_why_49_53 (H : TOk T) (hT : tl σ = T) (hm : m < nM T) (S : ScOk T (rs (σ 50))) (hp : PL T σ 53 b) (hb : BOk T b 12) {x4 : Int} : vcI X 111 [vP 57, vP 49, vI (m : Int), vP 53, vI x4] σ = some (whyS T (rs (σ 50)) m b (¬ x4 = 0), σ) := by
  have h8 := H.m8
  have h4 := H.d4
  have e44 : rs (σ 50) 44 = σ 50 44 := rs_in (by omega)
  have e8 : rs (σ 50) (8 + m) = σ 50 (8 + m) := rs_in (by omega)
  have em : rs (σ 50) m = σ 50 m := rs_in (by omega)
  have sm0 := S.1 m hm
  have s44 := S.2.2.1
  rw [e44] at s44
  rw [e8, em] at sm0
  have hM := H.mi m hm
  refine vI_of ((bq_111a_0 X _ _ σ).trans ?_) rfl
  unfold whyS fasting
  rw [e44, e8, em, g_sickA (by omega), bsome]
  dsimp +instances only
  by_cases a1 : 0 < σ 50 (8 + m)
  · rw [if_neg (by omega), if_pos a1]
  rw [if_pos (by omega), if_neg a1]
  have fin : vv X 111 63 [some (vP 57), some (vP 49), some (vI (m : Int)), some (vP 53), none] [] σ = some (some (vI (@ite _ (T 13 m - σ 50 m < bulkS T b) (Classical.propDecidable _) 5 0)), σ) := by
    rw [bq_111a_63, if_pos (by omega), g_fullA (by omega), bsome]
    dsimp +instances only
    rw [Nat.zero_add, tn_nat, tl_at hT (k := 13) (by omega), w32_id (by omega) (by omega), hp.2.2.1, bq_111a_90, bq_111a_90]
    by_cases y : T 13 m - σ 50 m < bulkS T b
    · rw [if_neg (by omega), if_pos y]
    · rw [if_pos (by omega), if_neg y]
  have tail : vv X 111 28 [some (vP 57), some (vP 49), some (vI (m : Int)), some (vP 53), some (vI x4)] [] σ = some (some (vI (@ite _ (hatesS T m b) (Classical.propDecidable _) 3 (@ite _ (¬ x4 = 0 ∧ ¬ storesS T (rs (σ 50)) b) (Classical.propDecidable _) 4 (@ite _ (T 13 m - σ 50 m < bulkS T b) (Classical.propDecidable _) 5 0)))), σ) := by
    rw [bq_111a_28, if_pos (by omega), tn_nat, tl_at hT (k := 17) (by omega)]
    have ab := andb hp.2.2.2.2.1.1 hp.2.2.2.2.1.2 (show 0 ≤ T 17 m by omega) (show T 17 m ≤ 15 by omega)
    have hh : am_and (σ 53 4) (T 17 m) = 0 ↔ ¬ hatesS T m b := by
      rw [ab]
      constructor
      · rintro h ⟨d, hd, q1, q2⟩
        rcases h d (by omega) with z | z
        · have := (hp.2.2.2.2.2 d (by omega)).mp z
          omega
        · exact q2 z
      · intro h d hd
        by_cases z : bt1 (T 17 m) d = 0
        · exact Or.inr z
        · refine Or.inl ((hp.2.2.2.2.2 d hd).mpr ?_)
          by_cases y : d < nD T
          · by_cases x : 0 < b d
            · exact absurd ⟨d, y, x, z⟩ h
            · omega
          · rw [hb.2 d (by omega) hd]
            omega
    by_cases z : hatesS T m b
    · rw [if_neg (fun y => hh.mp y z), if_pos z]
    · rw [if_pos (hh.mpr z), if_neg z, fin]
      by_cases y : x4 = 0
      · rw [if_pos y, if_neg (show ¬ (¬ x4 = 0 ∧ ¬ storesS T (rs (σ 50)) b) from fun q => q.1 y)]
      · rw [if_neg y, c_stores_49_53 H S hp hb, bsome]
        dsimp +instances only
        by_cases u : storesS T (rs (σ 50)) b
        · rw [if_pos u, if_pos (by decide), fin, if_neg (show ¬ (¬ x4 = 0 ∧ ¬ storesS T (rs (σ 50)) b) from fun q => q.2 u)]
        · rw [if_neg u, if_neg (by decide), if_pos ⟨y, u⟩]
  rw [hp.2.1]
  by_cases a3 : numS b ≤ 0
  · rw [if_pos a3, if_neg (fun q => by omega), tail]
  · rw [if_neg a3, c_fast_49 H hT hm s44.1, bsome]
    dsimp +instances only
    by_cases a2 : bt1 (T 18 m) (σ 50 44).toNat = 0
    · rw [if_pos a2, if_pos rfl, if_neg (fun q => q.2 a2), tail]
    · rw [if_neg a2, if_neg (by decide), if_pos ⟨by omega, a2⟩]
theorem c_stores_51_53 (H : TOk T) (S : ScOk T (rs (σ 52))) (hp : PL T σ 53 b) (hb : BOk T b 12) : vcI X 123 [vP 57, vP 51, vP 53] σ = some (@ite _ (storesS T (rs (σ 52)) b) (Classical.propDecidable _) 1 0, σ) := by
  have h4 := H.d4
  refine vI_of ((bq_123b_0 X σ).trans ?_) rfl
  rcases lq (fun i (_ : Unit) => vv X 123 2 [none, some (vP 51), some (vP 53), some (vI (i : Int))] [] σ) 4 (fun i _ => ∀ d, d < i → b d ≤ σ 52 (32 + d)) (fun r => r = (some (vI 0), σ) ∧ ¬ storesS T (rs (σ 52)) b) (fun i _ hi ha => by
    show (∃ s', vv X 123 2 [none, some (vP 51), some (vP 53), some (vI (i : Int))] [] σ = _ ∧ _) ∨ ∃ r, vv X 123 2 [none, some (vP 51), some (vP 53), some (vI (i : Int))] [] σ = some r ∧ _
    rw [bq_123b_2, if_neg (by omega), if_pos (by omega), g_storeB (by omega), bsome]
    dsimp +instances only
    rw [w32_s1 (by omega), tn_nat, show σ 54 i = b i from hp.at (by omega)]
    by_cases z : b i ≤ σ 52 (32 + i)
    · rw [if_pos z]
      exact Or.inl ⟨(), rfl, fun d hd => by
        by_cases y : d = i
        · rw [y]; exact z
        · exact ha d (by omega)⟩
    · rw [if_neg z]
      refine Or.inr ⟨_, rfl, rfl, fun y => z ?_⟩
      by_cases hn : i < nD T
      · have := y i hn
        rw [rs_in (by omega)] at this
        exact this
      · have := S.2.1 i hi
        rw [rs_in (by omega)] at this
        rw [hb.2 i (by omega) hi]
        omega) 4 0 () (by omega) (fun d hd => absurd hd (Nat.not_lt_zero d)) with ⟨s, e, hs⟩ | ⟨r, e, h1, h2⟩
  · refine Eq.trans e ?_
    show vv X 123 2 [none, some (vP 51), some (vP 53), some (vI 4)] [] σ = _
    rw [bq_123b_2, if_pos (Int.le_refl _), if_pos (show storesS T (rs (σ 52)) b from fun d hd => by rw [rs_in (by omega)]; exact hs d (by omega))]
  · refine Eq.trans e ?_
    rw [h1, if_neg h2]
theorem c_why_51_53 (H : TOk T) (hT : tl σ = T) (hm : m < nM T) (S : ScOk T (rs (σ 52))) (hp : PL T σ 53 b) (hb : BOk T b 12) {x4 : Int} : vcI X 111 [vP 57, vP 51, vI (m : Int), vP 53, vI x4] σ = some (whyS T (rs (σ 52)) m b (¬ x4 = 0), σ) := by
  have h8 := H.m8
  have h4 := H.d4
  have e44 : rs (σ 52) 44 = σ 52 44 := rs_in (by omega)
  have e8 : rs (σ 52) (8 + m) = σ 52 (8 + m) := rs_in (by omega)
  have em : rs (σ 52) m = σ 52 m := rs_in (by omega)
  have sm0 := S.1 m hm
  have s44 := S.2.2.1
  rw [e44] at s44
  rw [e8, em] at sm0
  have hM := H.mi m hm
  refine vI_of ((bq_111b_0 X _ _ σ).trans ?_) rfl
  unfold whyS fasting
  rw [e44, e8, em, g_sickB (by omega), bsome]
  dsimp +instances only
  by_cases a1 : 0 < σ 52 (8 + m)
  · rw [if_neg (by omega), if_pos a1]
  rw [if_pos (by omega), if_neg a1]
  have fin : vv X 111 63 [some (vP 57), some (vP 51), some (vI (m : Int)), some (vP 53), none] [] σ = some (some (vI (@ite _ (T 13 m - σ 52 m < bulkS T b) (Classical.propDecidable _) 5 0)), σ) := by
    rw [bq_111b_63, if_pos (by omega), g_fullB (by omega), bsome]
    dsimp +instances only
    rw [Nat.zero_add, tn_nat, tl_at hT (k := 13) (by omega), w32_id (by omega) (by omega), hp.2.2.1, bq_111b_90, bq_111b_90]
    by_cases y : T 13 m - σ 52 m < bulkS T b
    · rw [if_neg (by omega), if_pos y]
    · rw [if_pos (by omega), if_neg y]
  have tail : vv X 111 28 [some (vP 57), some (vP 51), some (vI (m : Int)), some (vP 53), some (vI x4)] [] σ = some (some (vI (@ite _ (hatesS T m b) (Classical.propDecidable _) 3 (@ite _ (¬ x4 = 0 ∧ ¬ storesS T (rs (σ 52)) b) (Classical.propDecidable _) 4 (@ite _ (T 13 m - σ 52 m < bulkS T b) (Classical.propDecidable _) 5 0)))), σ) := by
    rw [bq_111b_28, if_pos (by omega), tn_nat, tl_at hT (k := 17) (by omega)]
    have ab := andb hp.2.2.2.2.1.1 hp.2.2.2.2.1.2 (show 0 ≤ T 17 m by omega) (show T 17 m ≤ 15 by omega)
    have hh : am_and (σ 53 4) (T 17 m) = 0 ↔ ¬ hatesS T m b := by
      rw [ab]
      constructor
      · rintro h ⟨d, hd, q1, q2⟩
        rcases h d (by omega) with z | z
        · have := (hp.2.2.2.2.2 d (by omega)).mp z
          omega
        · exact q2 z
      · intro h d hd
        by_cases z : bt1 (T 17 m) d = 0
        · exact Or.inr z
        · refine Or.inl ((hp.2.2.2.2.2 d hd).mpr ?_)
          by_cases y : d < nD T
          · by_cases x : 0 < b d
            · exact absurd ⟨d, y, x, z⟩ h
            · omega
          · rw [hb.2 d (by omega) hd]
            omega
    by_cases z : hatesS T m b
    · rw [if_neg (fun y => hh.mp y z), if_pos z]
    · rw [if_pos (hh.mpr z), if_neg z, fin]
      by_cases y : x4 = 0
      · rw [if_pos y, if_neg (show ¬ (¬ x4 = 0 ∧ ¬ storesS T (rs (σ 52)) b) from fun q => q.1 y)]
      · rw [if_neg y, c_stores_51_53 H S hp hb, bsome]
        dsimp +instances only
        by_cases u : storesS T (rs (σ 52)) b
        · rw [if_pos u, if_pos (by decide), fin, if_neg (show ¬ (¬ x4 = 0 ∧ ¬ storesS T (rs (σ 52)) b) from fun q => q.2 u)]
        · rw [if_neg u, if_neg (by decide), if_pos ⟨y, u⟩]
  rw [hp.2.1]
  by_cases a3 : numS b ≤ 0
  · rw [if_pos a3, if_neg (fun q => by omega), tail]
  · rw [if_neg a3, c_fast_51 H hT hm s44.1, bsome]
    dsimp +instances only
    by_cases a2 : bt1 (T 18 m) (σ 52 44).toNat = 0
    · rw [if_pos a2, if_pos rfl, if_neg (fun q => q.2 a2), tail]
    · rw [if_neg a2, if_neg (by decide), if_pos ⟨by omega, a2⟩]
theorem c_stores_51_55 (H : TOk T) (S : ScOk T (rs (σ 52))) (hp : PL T σ 55 b) (hb : BOk T b 12) : vcI X 123 [vP 57, vP 51, vP 55] σ = some (@ite _ (storesS T (rs (σ 52)) b) (Classical.propDecidable _) 1 0, σ) := by
  have h4 := H.d4
  refine vI_of ((bq_123c_0 X σ).trans ?_) rfl
  rcases lq (fun i (_ : Unit) => vv X 123 2 [none, some (vP 51), some (vP 55), some (vI (i : Int))] [] σ) 4 (fun i _ => ∀ d, d < i → b d ≤ σ 52 (32 + d)) (fun r => r = (some (vI 0), σ) ∧ ¬ storesS T (rs (σ 52)) b) (fun i _ hi ha => by
    show (∃ s', vv X 123 2 [none, some (vP 51), some (vP 55), some (vI (i : Int))] [] σ = _ ∧ _) ∨ ∃ r, vv X 123 2 [none, some (vP 51), some (vP 55), some (vI (i : Int))] [] σ = some r ∧ _
    rw [bq_123c_2, if_neg (by omega), if_pos (by omega), g_storeB (by omega), bsome]
    dsimp +instances only
    rw [w32_s1 (by omega), tn_nat, show σ 56 i = b i from hp.at (by omega)]
    by_cases z : b i ≤ σ 52 (32 + i)
    · rw [if_pos z]
      exact Or.inl ⟨(), rfl, fun d hd => by
        by_cases y : d = i
        · rw [y]; exact z
        · exact ha d (by omega)⟩
    · rw [if_neg z]
      refine Or.inr ⟨_, rfl, rfl, fun y => z ?_⟩
      by_cases hn : i < nD T
      · have := y i hn
        rw [rs_in (by omega)] at this
        exact this
      · have := S.2.1 i hi
        rw [rs_in (by omega)] at this
        rw [hb.2 i (by omega) hi]
        omega) 4 0 () (by omega) (fun d hd => absurd hd (Nat.not_lt_zero d)) with ⟨s, e, hs⟩ | ⟨r, e, h1, h2⟩
  · refine Eq.trans e ?_
    show vv X 123 2 [none, some (vP 51), some (vP 55), some (vI 4)] [] σ = _
    rw [bq_123c_2, if_pos (Int.le_refl _), if_pos (show storesS T (rs (σ 52)) b from fun d hd => by rw [rs_in (by omega)]; exact hs d (by omega))]
  · refine Eq.trans e ?_
    rw [h1, if_neg h2]
theorem c_why_51_55 (H : TOk T) (hT : tl σ = T) (hm : m < nM T) (S : ScOk T (rs (σ 52))) (hp : PL T σ 55 b) (hb : BOk T b 12) {x4 : Int} : vcI X 111 [vP 57, vP 51, vI (m : Int), vP 55, vI x4] σ = some (whyS T (rs (σ 52)) m b (¬ x4 = 0), σ) := by
  have h8 := H.m8
  have h4 := H.d4
  have e44 : rs (σ 52) 44 = σ 52 44 := rs_in (by omega)
  have e8 : rs (σ 52) (8 + m) = σ 52 (8 + m) := rs_in (by omega)
  have em : rs (σ 52) m = σ 52 m := rs_in (by omega)
  have sm0 := S.1 m hm
  have s44 := S.2.2.1
  rw [e44] at s44
  rw [e8, em] at sm0
  have hM := H.mi m hm
  refine vI_of ((bq_111c_0 X _ _ σ).trans ?_) rfl
  unfold whyS fasting
  rw [e44, e8, em, g_sickB (by omega), bsome]
  dsimp +instances only
  by_cases a1 : 0 < σ 52 (8 + m)
  · rw [if_neg (by omega), if_pos a1]
  rw [if_pos (by omega), if_neg a1]
  have fin : vv X 111 63 [some (vP 57), some (vP 51), some (vI (m : Int)), some (vP 55), none] [] σ = some (some (vI (@ite _ (T 13 m - σ 52 m < bulkS T b) (Classical.propDecidable _) 5 0)), σ) := by
    rw [bq_111c_63, if_pos (by omega), g_fullB (by omega), bsome]
    dsimp +instances only
    rw [Nat.zero_add, tn_nat, tl_at hT (k := 13) (by omega), w32_id (by omega) (by omega), hp.2.2.1, bq_111c_90, bq_111c_90]
    by_cases y : T 13 m - σ 52 m < bulkS T b
    · rw [if_neg (by omega), if_pos y]
    · rw [if_pos (by omega), if_neg y]
  have tail : vv X 111 28 [some (vP 57), some (vP 51), some (vI (m : Int)), some (vP 55), some (vI x4)] [] σ = some (some (vI (@ite _ (hatesS T m b) (Classical.propDecidable _) 3 (@ite _ (¬ x4 = 0 ∧ ¬ storesS T (rs (σ 52)) b) (Classical.propDecidable _) 4 (@ite _ (T 13 m - σ 52 m < bulkS T b) (Classical.propDecidable _) 5 0)))), σ) := by
    rw [bq_111c_28, if_pos (by omega), tn_nat, tl_at hT (k := 17) (by omega)]
    have ab := andb hp.2.2.2.2.1.1 hp.2.2.2.2.1.2 (show 0 ≤ T 17 m by omega) (show T 17 m ≤ 15 by omega)
    have hh : am_and (σ 55 4) (T 17 m) = 0 ↔ ¬ hatesS T m b := by
      rw [ab]
      constructor
      · rintro h ⟨d, hd, q1, q2⟩
        rcases h d (by omega) with z | z
        · have := (hp.2.2.2.2.2 d (by omega)).mp z
          omega
        · exact q2 z
      · intro h d hd
        by_cases z : bt1 (T 17 m) d = 0
        · exact Or.inr z
        · refine Or.inl ((hp.2.2.2.2.2 d hd).mpr ?_)
          by_cases y : d < nD T
          · by_cases x : 0 < b d
            · exact absurd ⟨d, y, x, z⟩ h
            · omega
          · rw [hb.2 d (by omega) hd]
            omega
    by_cases z : hatesS T m b
    · rw [if_neg (fun y => hh.mp y z), if_pos z]
    · rw [if_pos (hh.mpr z), if_neg z, fin]
      by_cases y : x4 = 0
      · rw [if_pos y, if_neg (show ¬ (¬ x4 = 0 ∧ ¬ storesS T (rs (σ 52)) b) from fun q => q.1 y)]
      · rw [if_neg y, c_stores_51_55 H S hp hb, bsome]
        dsimp +instances only
        by_cases u : storesS T (rs (σ 52)) b
        · rw [if_pos u, if_pos (by decide), fin, if_neg (show ¬ (¬ x4 = 0 ∧ ¬ storesS T (rs (σ 52)) b) from fun q => q.2 u)]
        · rw [if_neg u, if_neg (by decide), if_pos ⟨y, u⟩]
  rw [hp.2.1]
  by_cases a3 : numS b ≤ 0
  · rw [if_pos a3, if_neg (fun q => by omega), tail]
  · rw [if_neg a3, c_fast_51 H hT hm s44.1, bsome]
    dsimp +instances only
    by_cases a2 : bt1 (T 18 m) (σ 52 44).toNat = 0
    · rw [if_pos a2, if_pos rfl, if_neg (fun q => q.2 a2), tail]
    · rw [if_neg a2, if_neg (by decide), if_pos ⟨by omega, a2⟩]
end CSC
